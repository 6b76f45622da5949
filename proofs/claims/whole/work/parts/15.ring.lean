/-! ShapeJudge$Ring -/
theorem nF {x : Bool} (h : ¬ x = false) : x = true := by cases x <;> simp_all
def anyB : Nat → (Nat → Bool) → Bool
  | 0, _ => false
  | n + 1, f => anyB n f || f n
theorem anyB_iff {n : Nat} {f : Nat → Bool} : anyB n f = true ↔ ∃ i, i < n ∧ f i = true := by
  induction n with
  | zero => simp [anyB]
  | succ n ih =>
    simp only [anyB, Bool.or_eq_true, ih]
    constructor
    · rintro (⟨i, h1, h2⟩ | h)
      · exact ⟨i, by omega, h2⟩
      · exact ⟨n, by omega, h⟩
    · rintro ⟨i, h1, h2⟩
      by_cases h : i = n
      · subst h; exact Or.inr h2
      · exact Or.inl ⟨i, by omega, h2⟩
theorem anyB_t {n i : Nat} {f : Nat → Bool} (h : i < n) (hf : f i = true) : anyB n f = true := anyB_iff.mpr ⟨i, h, hf⟩
theorem anyB_f {n : Nat} {f : Nat → Bool} (h : ∀ i, i < n → f i = false) : anyB n f = false := by
  cases hb : anyB n f with
  | false => rfl
  | true =>
    obtain ⟨i, h1, h2⟩ := anyB_iff.mp hb
    rw [h i h1] at h2; cases h2
def parB : Nat → (Nat → Bool) → Bool
  | 0, _ => false
  | n + 1, f => if f n = false then parB n f else !parB n f
def firstB : Nat → (Nat → Bool) → Option Nat
  | 0, _ => none
  | n + 1, f => match firstB n f with
    | some i => some i
    | none => if f n = true then some n else none
theorem firstB_none {n : Nat} {f : Nat → Bool} (h : ∀ i, i < n → f i = false) : firstB n f = none := by
  induction n with
  | zero => rfl
  | succ n ih => simp [firstB, ih (fun i hi => h i (by omega)), h n (by omega)]
theorem firstB_some {n i : Nat} {f : Nat → Bool} (hi : i < n) (hf : f i = true) (h : ∀ j, j < i → f j = false) : firstB n f = some i := by
  induction n with
  | zero => omega
  | succ n ih =>
    by_cases e : i = n
    · subst e; simp [firstB, firstB_none h, hf]
    · simp [firstB, ih (by omega)]
def rgN (n : Nat) (G : Nat → Nat) (i : Nat) : Option Nat := if n < 2 then none else some (G (if i + 1 = n then 0 else i + 1))
/-- a ring's object, box, array of segments, segments and their boxes: S i holds number, from, to and box of the i-th one -/
def rgAt (dT : Nat → ClassId) (ah : hA) (rg bx sa cap n : Nat) (pt rn df : Int32) (cl : Bool) (bb : Nat → Int32) (F : Nat → Option Nat) (G B : Nat → Nat) (S : Nat → Nat → Int32) : Prop :=
  ah rg = some (.inr (5, [.int pt, .int rn, .ref bx, .ref sa, .int (nI n), .int (bI cl), .int df])) ∧ ah bx = some (.inr (0, [.int (bb 0), .int (bb 1), .int (bb 2), .int (bb 3)])) ∧ ah sa = some (.inl (dT 2, cap, .inr (.inr (.inr (.inr F))))) ∧ n ≤ cap ∧ cap ≤ 100000 ∧
  ∀ i, i < n → F i = some (G i) ∧ ah (G i) = some (.inr (7, [.ref rg, .int (S i 0), .int (S i 1), .int (S i 2), .int (S i 3), .int (S i 4), .ref (B i), va_rf (rgN n G i)])) ∧ ah (B i) = some (.inr (0, [.int (S i 5), .int (S i 6), .int (S i 7), .int (S i 8)]))
def sP (q : Nat → Int32) (x y : Int32) : Bool := sgPasses (q 1) (q 2) (q 3) (q 4) (q 5) (q 6) (q 7) (q 8) x y
def rgPasses (bb : Nat → Int32) (n : Nat) (S : Nat → Nat → Int32) (x y : Int32) : Bool := if bxHas (bb 0) (bb 1) (bb 2) (bb 3) x y = false then false else anyB n (fun i => sP (S i) x y)
theorem rgPasses_o {bb : Nat → Int32} {n : Nat} {S : Nat → Nat → Int32} {x y : Int32} (h : bxHas (bb 0) (bb 1) (bb 2) (bb 3) x y = false) : rgPasses bb n S x y = false := if_pos h
theorem rgPasses_t {bb : Nat → Int32} {n i : Nat} {S : Nat → Nat → Int32} {x y : Int32} (h : bxHas (bb 0) (bb 1) (bb 2) (bb 3) x y = true) (hi : i < n) (hp : sP (S i) x y = true) : rgPasses bb n S x y = true := by
  unfold rgPasses; rw [if_neg (by rw [h]; decide)]; exact anyB_t hi hp
theorem rgPasses_f {bb : Nat → Int32} {n : Nat} {S : Nat → Nat → Int32} {x y : Int32} (h : bxHas (bb 0) (bb 1) (bb 2) (bb 3) x y = true) (hp : ∀ j, j < n → sP (S j) x y = false) : rgPasses bb n S x y = false := by
  unfold rgPasses; rw [if_neg (by rw [h]; decide)]; exact anyB_f hp
def rgCorner (n : Nat) (S : Nat → Nat → Int32) (x y : Int32) : Bool := anyB n (fun i => sgBegins (S i 1) (S i 2) x y)
def sH (q : Nat → Int32) (x y : Int32) (dx dy : Int64) : Bool := sgHit (q 1) (q 2) (q 3) (q 4) x y dx dy
theorem parB_k {i : Nat} {f : Nat → Bool} (h : f i = false) : bI (parB i f) = bI (parB (i + 1) f) := by simp [parB, h]
theorem parB_x {i : Nat} {f : Nat → Bool} {v : Int32} (h : ¬ f i = false) (e : v = if parB i f = false then 1 else 0) : v = bI (parB (i + 1) f) := by
  rw [e, parB, if_neg h]
  cases parB i f <;> rfl
def rgHolds (bb : Nat → Int32) (n : Nat) (S : Nat → Nat → Int32) (x y : Int32) (dx dy : Int64) : Bool := if bxHas (bb 0) (bb 1) (bb 2) (bb 3) x y = false then false else parB n (fun j => sH (S j) x y dx dy)
theorem rgHolds_o {bb : Nat → Int32} {n : Nat} {S : Nat → Nat → Int32} {x y : Int32} {dx dy : Int64} (h : bxHas (bb 0) (bb 1) (bb 2) (bb 3) x y = false) : rgHolds bb n S x y dx dy = false := if_pos h
theorem rgHolds_i {bb : Nat → Int32} {n : Nat} {S : Nat → Nat → Int32} {x y : Int32} {dx dy : Int64} (h : bxHas (bb 0) (bb 1) (bb 2) (bb 3) x y = true) : rgHolds bb n S x y dx dy = parB n (fun j => sH (S j) x y dx dy) := if_neg (by rw [h]; decide)
/-- a segment's beginning is not on a ring -/
def rgOff (bb : Nat → Int32) (n : Nat) (S : Nat → Nat → Int32) (q : Nat → Int32) : Bool := !rgPasses bb n S (q 1) (q 2)
theorem rgOff_f {bb : Nat → Int32} {n : Nat} {S : Nat → Nat → Int32} {q : Nat → Int32} (h : ¬ rgPasses bb n S (q 1) (q 2) = false) : rgOff bb n S q = false := by simp [rgOff, nF h]
theorem rgOff_t {bb : Nat → Int32} {n : Nat} {S : Nat → Nat → Int32} {q : Nat → Int32} (h : rgPasses bb n S (q 1) (q 2) = false) : rgOff bb n S q = true := by simp [rgOff, h]
def rgIn (n : Nat) (S : Nat → Nat → Int32) (bb2 : Nat → Int32) (n2 : Nat) (S2 : Nat → Nat → Int32) : Bool := match firstB n (fun j => rgOff bb2 n2 S2 (S j)) with
  | some i => rgHolds bb2 n2 S2 (S i 1) (S i 2) 0 0
  | none => if n = 0 then false else rgHolds bb2 n2 S2 (S 0 1) (S 0 2) ((S 0 3).toInt64 - (S 0 1).toInt64) ((S 0 4).toInt64 - (S 0 2).toInt64)
theorem rgIn_a {n i n2 : Nat} {S S2 : Nat → Nat → Int32} {bb2 : Nat → Int32} (hi : i < n) (h : rgOff bb2 n2 S2 (S i) = true) (hj : ∀ j, j < i → rgOff bb2 n2 S2 (S j) = false) : rgIn n S bb2 n2 S2 = rgHolds bb2 n2 S2 (S i 1) (S i 2) 0 0 := by
  unfold rgIn; rw [firstB_some (f := fun j => rgOff bb2 n2 S2 (S j)) hi h hj]
theorem rgIn_0 {n n2 : Nat} {S S2 : Nat → Nat → Int32} {bb2 : Nat → Int32} (h : n = 0) : rgIn n S bb2 n2 S2 = false := by subst h; simp [rgIn, firstB]
theorem rgIn_n {n n2 : Nat} {S S2 : Nat → Nat → Int32} {bb2 : Nat → Int32} (h : ¬ n = 0) (hj : ∀ j, j < n → rgOff bb2 n2 S2 (S j) = false) : rgIn n S bb2 n2 S2 = rgHolds bb2 n2 S2 (S 0 1) (S 0 2) ((S 0 3).toInt64 - (S 0 1).toInt64) ((S 0 4).toInt64 - (S 0 2).toInt64) := by
  unfold rgIn; rw [firstB_none (f := fun j => rgOff bb2 n2 S2 (S j)) hj]; simp [h]
set_option maxHeartbeats 4000000 in
set_option maxRecDepth 100000 in
theorem c_X5_passes (l : Launch) (D : va_G) (dT : Nat → ClassId) (ah : hA) (sz : Nat) (rg bx sa cap n : Nat) (pt rn df : Int32) (cl : Bool) (bb : Nat → Int32) (F : Nat → Option Nat) (G B : Nat → Nat) (S : Nat → Nat → Int32) (hg : rgAt dT ah rg bx sa cap n pt rn df cl bb F G B S) (x y : Int32) : hMet l yX5_passes cX5_passes 4 (some .boolean) ({ frames := 2, cells := 0, slots := 0, locals := 44 }) D dT [.ref rg, .int x, .int y] ah sz (fun r ah2 => r = some (.int (bI (rgPasses bb n S x y))) ∧ ah = ah2) 0 0 := by
  refine h_met (by decide) (Nat.le_of_ble_eq_true rfl) ?_
  intro p e s m below meth c ls R Q args hav hR hQ hB hl hsz hw
  obtain ⟨hx, hb, hml, hr, hts, hown, hlk, hin, hK⟩ := hB
  have hown : s.vm.findClass RX5 = some m.cls := hown
  have hl : lv_has ls 4 [(0, .ref rg), (1, .int x), (2, .int y)] := hl
  have hg0 := hg
  obtain ⟨hrg, hbx, hsa, hnc, hcp, hsg⟩ := hg
  refine lv_aload_n hx hb dX5_passes_0 rfl (lv_at hl 0 rfl) ?_
  refine h_get (ci := 5) (v := .ref bx) (C := RX5) (T := TX5) (N := 7) hx hb hts kl_X5 hown hK hw hrg rfl 2 (by decide) (hts _ kf_X5_19) rfl rfl dX5_passes_1 ?_
  refine lv_iload_n hx hb dX5_passes_4 rfl (lv_at hl 1 rfl) ?_
  refine lv_iload_n hx hb dX5_passes_5 rfl (lv_at hl 2 rfl) ?_
  refine h_callV (n := 2) (ci := 0) (b := bx) (As := [.int x, .int y]) (rest := []) ⟨hx, hb, hml, hown, hts⟩ hK hw (c_X0_has l D dT ah s.heap.size bx (bb 0) (bb 1) (bb 2) (bb 3) hbx x y) ko_X0_has km_X5_58 ki_X0_has ks_X0_has kn_X0 (by decide +kernel) rfl hbx rfl hl.1 rfl (by simp [Value.category]) dX5_passes_6 (by rw [hR]; exact ⟨rfl, rfl, Nat.le_of_ble_eq_true rfl, Nat.le_of_ble_eq_true rfl, by simp, by simp⟩) (fun r_1 ah_2 H_3 L_4 st_5 hp hw hst => ?_)
  obtain ⟨rfl, rfl⟩ := hp
  have hst : st_5 = [.int (bI (bxHas (bb 0) (bb 1) (bb 2) (bb 3) x y))] := hst
  subst hst
  refine lv_if_ne (tgt := 14) hx hb dX5_passes_9 (by decide) (fun c_6 => ?_) (fun c_6 => ?_)
  · skip
    have c_6 : ¬ (bxHas (bb 0) (bb 1) (bb 2) (bb 3) x y = false) := (not_congr bI_0).mp c_6
    refine lv_iconst (v := 0) hx hb dX5_passes_14 (by decide) ?_
    refine lv_istore_n (lv' := [(3, .int 0), (0, .ref rg), (1, .int x), (2, .int y)]) hx hb dX5_passes_15 rfl hl (by decide) rfl (fun ls hl => ?_)
    have LP16 : ∀ (k16 : Nat) (i : Nat) (ls : Array Slot) (H16 : Heap) (L16 : List Loc), (n - i < k16) → (i ≤ n) → (∀ j, j < i → sP (S j) x y = false) → lv_has ls 4 [(3, .int (nI i)), (0, .ref rg), (1, .int x), (2, .int y)] → hW D ah s.heap ah H16 L16 → W p l e R s m args below meth c H16 L16 (0 + 0) (0 + 0) Q (F0 m 16 ls []) := by
      intro k16
      induction k16 with
      | zero => intro i ls H16 L16 hk; exact absurd hk (Nat.not_lt_zero _)
      | succ k16 ih16 =>
        intro i ls H16 L16 hk16 hi hpv hl hw
        refine lv_iload_n hx hb dX5_passes_16 rfl (lv_at hl 0 rfl) ?_
        refine lv_aload_n hx hb dX5_passes_17 rfl (lv_at hl 1 rfl) ?_
        refine h_get (ci := 5) (v := .int (nI n)) (C := RX5) (T := TX5) (N := 7) hx hb hts kl_X5 hown hK hw hrg rfl 4 (by decide) (hts _ kf_X5_35) rfl rfl dX5_passes_18 ?_
        refine lv_icmp_ge (tgt := 46) hx hb dX5_passes_21 (by decide) (fun c_7 => ?_) (fun c_7 => ?_)
        · skip
          have c_7 : n ≤ i := (nI_lex (by rfl) (by rfl) (by omega) (by omega)).mp c_7
          refine lv_iconst (v := 0) hx hb dX5_passes_46 (by decide) ?_
          rw [hQ]
          exact h_zret hx hb hr hlk hsz hw (by simp) (by simp) dX5_passes_47 (by decide) ⟨congrArg (fun z => some (Value.int (bI z))) (a₁ := false) (rgPasses_f (nF c_6) (fun j hj => hpv j (by omega))).symm, rfl⟩
        · skip
          have c_7 : ¬ (n ≤ i) := (not_congr (nI_lex (by rfl) (by rfl) (by omega) (by omega))).mp c_7
          refine lv_aload_n hx hb dX5_passes_24 rfl (lv_at hl 1 rfl) ?_
          refine h_get (ci := 5) (v := .ref sa) (C := RX5) (T := TX5) (N := 7) hx hb hts kl_X5 hown hK hw hrg rfl 3 (by decide) (hts _ kf_X5_31) rfl rfl dX5_passes_25 ?_
          refine lv_iload_n hx hb dX5_passes_28 rfl (lv_at hl 0 rfl) ?_
          obtain ⟨hs_8_f, hs_8_g, hs_8_b⟩ := hsg i (by omega)
          refine h_aald hx hb hK hw 2 rfl hsa i rfl (by omega) (by omega) hs_8_f dX5_passes_29 ?_
          refine lv_iload_n hx hb dX5_passes_30 rfl (lv_at hl 2 rfl) ?_
          refine lv_iload_n hx hb dX5_passes_31 rfl (lv_at hl 3 rfl) ?_
          refine h_callV (n := 2) (ci := 7) (b := (G i)) (As := [.int x, .int y]) (rest := []) ⟨hx, hb, hml, hown, hts⟩ hK hw (c_X7_passes l D dT ah H16.size (G i) rg (B i) (rgN n G i) (S i 0) (S i 1) (S i 2) (S i 3) (S i 4) hs_8_g (S i 5) (S i 6) (S i 7) (S i 8) hs_8_b x y) ko_X7_passes km_X5_62 ki_X7_passes ks_X7_passes kn_X7 (by decide +kernel) rfl hs_8_g rfl hl.1 rfl (by simp [Value.category]) dX5_passes_32 (by rw [hR]; exact ⟨rfl, rfl, Nat.le_of_ble_eq_true rfl, Nat.le_of_ble_eq_true rfl, by simp, by simp⟩) (fun r_9 ah_10 H_11 L_12 st_13 hp hw hst => ?_)
          obtain ⟨rfl, rfl⟩ := hp
          have hst : st_13 = [.int (bI (sgPasses (S i 1) (S i 2) (S i 3) (S i 4) (S i 5) (S i 6) (S i 7) (S i 8) x y))] := hst
          subst hst
          refine lv_if_eq (tgt := 40) hx hb dX5_passes_35 (by decide) (fun c_14 => ?_) (fun c_14 => ?_)
          · skip
            have c_14 : sgPasses (S i 1) (S i 2) (S i 3) (S i 4) (S i 5) (S i 6) (S i 7) (S i 8) x y = false := bI_0.mp c_14
            refine lv_iinc (v := nI (i + 1)) (lv' := [(3, .int (nI (i + 1))), (0, .ref rg), (1, .int x), (2, .int y)]) hx hb dX5_passes_40 hl (k := 0) rfl (nI_c _ 1) (by decide) rfl (fun ls hl => ?_)
            refine lv_goto (tgt := 16) hx hb dX5_passes_43 (by decide) ?_
            refine W.widen (k := 0 + 0) (n := 0 + 0) (by omega) (by omega) ?_
            exact ih16 (i + 1) ls _ _ (by omega) (by omega) (lt_s hpv c_14) (lv_sub hl [0, 1, 2, 3] rfl) hw
          · skip
            have c_14 : ¬ (sgPasses (S i 1) (S i 2) (S i 3) (S i 4) (S i 5) (S i 6) (S i 7) (S i 8) x y = false) := (not_congr bI_0).mp c_14
            refine lv_iconst (v := 1) hx hb dX5_passes_38 (by decide) ?_
            rw [hQ]
            exact h_zret hx hb hr hlk hsz hw (by simp) (by simp) dX5_passes_39 (by decide) ⟨congrArg (fun z => some (Value.int (bI z))) (a₁ := true) (rgPasses_t (nF c_6) (i := i) (by omega) (nF c_14)).symm, rfl⟩
    exact LP16 ((n - 0) + 1) 0 ls _ _ (Nat.lt_succ_self _) (by omega) lt_0 (lv_sub hl [0, 1, 2, 3] rfl) hw
  · skip
    have c_6 : bxHas (bb 0) (bb 1) (bb 2) (bb 3) x y = false := bI_0.mp c_6
    refine lv_iconst (v := 0) hx hb dX5_passes_12 (by decide) ?_
    rw [hQ]
    exact h_zret hx hb hr hlk hsz hw (by simp) (by simp) dX5_passes_13 (by decide) ⟨congrArg (fun z => some (Value.int (bI z))) (a₁ := false) (rgPasses_o c_6).symm, rfl⟩

set_option maxHeartbeats 4000000 in
set_option maxRecDepth 100000 in
theorem c_X5_hasCorner (l : Launch) (D : va_G) (dT : Nat → ClassId) (ah : hA) (sz : Nat) (rg bx sa cap n : Nat) (pt rn df : Int32) (cl : Bool) (bb : Nat → Int32) (F : Nat → Option Nat) (G B : Nat → Nat) (S : Nat → Nat → Int32) (hg : rgAt dT ah rg bx sa cap n pt rn df cl bb F G B S) (x y : Int32) : hMet l yX5_hasCorner cX5_hasCorner 4 (some .boolean) ({ frames := 1, cells := 0, slots := 0, locals := 22 }) D dT [.ref rg, .int x, .int y] ah sz (fun r ah2 => r = some (.int (bI (rgCorner n S x y))) ∧ ah = ah2) 0 0 := by
  refine h_met (by decide) (Nat.le_of_ble_eq_true rfl) ?_
  intro p e s m below meth c ls R Q args hav hR hQ hB hl hsz hw
  obtain ⟨hx, hb, hml, hr, hts, hown, hlk, hin, hK⟩ := hB
  have hown : s.vm.findClass RX5 = some m.cls := hown
  have hl : lv_has ls 4 [(0, .ref rg), (1, .int x), (2, .int y)] := hl
  have hg0 := hg
  obtain ⟨hrg, hbx, hsa, hnc, hcp, hsg⟩ := hg
  refine lv_iconst (v := 0) hx hb dX5_hasCorner_0 (by decide) ?_
  refine lv_istore_n (lv' := [(3, .int 0), (0, .ref rg), (1, .int x), (2, .int y)]) hx hb dX5_hasCorner_1 rfl hl (by decide) rfl (fun ls hl => ?_)
  have LP2 : ∀ (k2 : Nat) (i : Nat) (ls : Array Slot) (H2 : Heap) (L2 : List Loc), (n - i < k2) → (i ≤ n) → (∀ j, j < i → sgBegins (S j 1) (S j 2) x y = false) → lv_has ls 4 [(3, .int (nI i)), (0, .ref rg), (1, .int x), (2, .int y)] → hW D ah s.heap ah H2 L2 → W p l e R s m args below meth c H2 L2 (0) (0) Q (F0 m 2 ls []) := by
    intro k2
    induction k2 with
    | zero => intro i ls H2 L2 hk; exact absurd hk (Nat.not_lt_zero _)
    | succ k2 ih2 =>
      intro i ls H2 L2 hk2 hi hpv hl hw
      refine lv_iload_n hx hb dX5_hasCorner_2 rfl (lv_at hl 0 rfl) ?_
      refine lv_aload_n hx hb dX5_hasCorner_3 rfl (lv_at hl 1 rfl) ?_
      refine h_get (ci := 5) (v := .int (nI n)) (C := RX5) (T := TX5) (N := 7) hx hb hts kl_X5 hown hK hw hrg rfl 4 (by decide) (hts _ kf_X5_35) rfl rfl dX5_hasCorner_4 ?_
      refine lv_icmp_ge (tgt := 32) hx hb dX5_hasCorner_7 (by decide) (fun c_1 => ?_) (fun c_1 => ?_)
      · skip
        have c_1 : n ≤ i := (nI_lex (by rfl) (by rfl) (by omega) (by omega)).mp c_1
        refine lv_iconst (v := 0) hx hb dX5_hasCorner_32 (by decide) ?_
        rw [hQ]
        exact h_zret hx hb hr hlk hsz hw (by simp) (by simp) dX5_hasCorner_33 (by decide) ⟨congrArg (fun z => some (Value.int (bI z))) (a₁ := false) (anyB_f (fun j hj => hpv j (by omega))).symm, rfl⟩
      · skip
        have c_1 : ¬ (n ≤ i) := (not_congr (nI_lex (by rfl) (by rfl) (by omega) (by omega))).mp c_1
        refine lv_aload_n hx hb dX5_hasCorner_10 rfl (lv_at hl 1 rfl) ?_
        refine h_get (ci := 5) (v := .ref sa) (C := RX5) (T := TX5) (N := 7) hx hb hts kl_X5 hown hK hw hrg rfl 3 (by decide) (hts _ kf_X5_31) rfl rfl dX5_hasCorner_11 ?_
        refine lv_iload_n hx hb dX5_hasCorner_14 rfl (lv_at hl 0 rfl) ?_
        obtain ⟨hs_2_f, hs_2_g, hs_2_b⟩ := hsg i (by omega)
        refine h_aald hx hb hK hw 2 rfl hsa i rfl (by omega) (by omega) hs_2_f dX5_hasCorner_15 ?_
        refine lv_iload_n hx hb dX5_hasCorner_16 rfl (lv_at hl 2 rfl) ?_
        refine lv_iload_n hx hb dX5_hasCorner_17 rfl (lv_at hl 3 rfl) ?_
        refine h_callV (n := 2) (ci := 7) (b := (G i)) (As := [.int x, .int y]) (rest := []) ⟨hx, hb, hml, hown, hts⟩ hK hw (c_X7_beginsAt l D dT ah H2.size (G i) rg (B i) (rgN n G i) (S i 0) (S i 1) (S i 2) (S i 3) (S i 4) hs_2_g x y) ko_X7_beginsAt km_X5_65 ki_X7_beginsAt ks_X7_beginsAt kn_X7 (by decide +kernel) rfl hs_2_g rfl hl.1 rfl (by simp [Value.category]) dX5_hasCorner_18 (by rw [hR]; exact ⟨rfl, rfl, Nat.le_of_ble_eq_true rfl, Nat.le_of_ble_eq_true rfl, by simp, by simp⟩) (fun r_3 ah_4 H_5 L_6 st_7 hp hw hst => ?_)
        obtain ⟨rfl, rfl⟩ := hp
        have hst : st_7 = [.int (bI (sgBegins (S i 1) (S i 2) x y))] := hst
        subst hst
        refine lv_if_eq (tgt := 26) hx hb dX5_hasCorner_21 (by decide) (fun c_8 => ?_) (fun c_8 => ?_)
        · skip
          have c_8 : sgBegins (S i 1) (S i 2) x y = false := bI_0.mp c_8
          refine lv_iinc (v := nI (i + 1)) (lv' := [(3, .int (nI (i + 1))), (0, .ref rg), (1, .int x), (2, .int y)]) hx hb dX5_hasCorner_26 hl (k := 0) rfl (nI_c _ 1) (by decide) rfl (fun ls hl => ?_)
          refine lv_goto (tgt := 2) hx hb dX5_hasCorner_29 (by decide) ?_
          refine W.widen (k := 0) (n := 0) (by omega) (by omega) ?_
          exact ih2 (i + 1) ls _ _ (by omega) (by omega) (lt_s hpv c_8) (lv_sub hl [0, 1, 2, 3] rfl) hw
        · skip
          have c_8 : ¬ (sgBegins (S i 1) (S i 2) x y = false) := (not_congr bI_0).mp c_8
          refine lv_iconst (v := 1) hx hb dX5_hasCorner_24 (by decide) ?_
          rw [hQ]
          exact h_zret hx hb hr hlk hsz hw (by simp) (by simp) dX5_hasCorner_25 (by decide) ⟨congrArg (fun z => some (Value.int (bI z))) (a₁ := true) (anyB_t (i := i) (by omega) (nF c_8)).symm, rfl⟩
  exact LP2 ((n - 0) + 1) 0 ls _ _ (Nat.lt_succ_self _) (by omega) lt_0 (lv_sub hl [0, 1, 2, 3] rfl) hw

set_option maxHeartbeats 4000000 in
set_option maxRecDepth 100000 in
theorem c_X5_holds (l : Launch) (D : va_G) (dT : Nat → ClassId) (ah : hA) (sz : Nat) (rg bx sa cap n : Nat) (pt rn df : Int32) (cl : Bool) (bb : Nat → Int32) (F : Nat → Option Nat) (G B : Nat → Nat) (S : Nat → Nat → Int32) (hg : rgAt dT ah rg bx sa cap n pt rn df cl bb F G B S) (x y : Int32) (dx dy : Int64) : hMet l yX5_holds cX5_holds 9 (some .boolean) ({ frames := 2, cells := 0, slots := 0, locals := 52 }) D dT [.ref rg, .int x, .int y, .long dx, .long dy] ah sz (fun r ah2 => r = some (.int (bI (rgHolds bb n S x y dx dy))) ∧ ah = ah2) 0 0 := by
  refine h_met (by decide) (Nat.le_of_ble_eq_true rfl) ?_
  intro p e s m below meth c ls R Q args hav hR hQ hB hl hsz hw
  obtain ⟨hx, hb, hml, hr, hts, hown, hlk, hin, hK⟩ := hB
  have hown : s.vm.findClass RX5 = some m.cls := hown
  have hl : lv_has ls 9 [(0, .ref rg), (1, .int x), (2, .int y), (3, .long dx), (5, .long dy)] := hl
  have hg0 := hg
  obtain ⟨hrg, hbx, hsa, hnc, hcp, hsg⟩ := hg
  refine lv_aload_n hx hb dX5_holds_0 rfl (lv_at hl 0 rfl) ?_
  refine h_get (ci := 5) (v := .ref bx) (C := RX5) (T := TX5) (N := 7) hx hb hts kl_X5 hown hK hw hrg rfl 2 (by decide) (hts _ kf_X5_19) rfl rfl dX5_holds_1 ?_
  refine lv_iload_n hx hb dX5_holds_4 rfl (lv_at hl 1 rfl) ?_
  refine lv_iload_n hx hb dX5_holds_5 rfl (lv_at hl 2 rfl) ?_
  refine h_callV (n := 2) (ci := 0) (b := bx) (As := [.int x, .int y]) (rest := []) ⟨hx, hb, hml, hown, hts⟩ hK hw (c_X0_has l D dT ah s.heap.size bx (bb 0) (bb 1) (bb 2) (bb 3) hbx x y) ko_X0_has km_X5_58 ki_X0_has ks_X0_has kn_X0 (by decide +kernel) rfl hbx rfl hl.1 rfl (by simp [Value.category]) dX5_holds_6 (by rw [hR]; exact ⟨rfl, rfl, Nat.le_of_ble_eq_true rfl, Nat.le_of_ble_eq_true rfl, by simp, by simp⟩) (fun r_1 ah_2 H_3 L_4 st_5 hp hw hst => ?_)
  obtain ⟨rfl, rfl⟩ := hp
  have hst : st_5 = [.int (bI (bxHas (bb 0) (bb 1) (bb 2) (bb 3) x y))] := hst
  subst hst
  refine lv_if_ne (tgt := 14) hx hb dX5_holds_9 (by decide) (fun c_6 => ?_) (fun c_6 => ?_)
  · skip
    have c_6 : ¬ (bxHas (bb 0) (bb 1) (bb 2) (bb 3) x y = false) := (not_congr bI_0).mp c_6
    refine lv_iconst (v := 0) hx hb dX5_holds_14 (by decide) ?_
    refine lv_istore (lv' := [(7, .int 0), (0, .ref rg), (1, .int x), (2, .int y), (3, .long dx), (5, .long dy)]) hx hb dX5_holds_15 hl (by decide) rfl (fun ls hl => ?_)
    refine lv_iconst (v := 0) hx hb dX5_holds_17 (by decide) ?_
    refine lv_istore (lv' := [(8, .int 0), (7, .int 0), (0, .ref rg), (1, .int x), (2, .int y), (3, .long dx), (5, .long dy)]) hx hb dX5_holds_18 hl (by decide) rfl (fun ls hl => ?_)
    have LP20 : ∀ (k20 : Nat) (i : Nat) (ls : Array Slot) (H20 : Heap) (L20 : List Loc), (n - i < k20) → (i ≤ n) → lv_has ls 9 [(8, .int (nI i)), (7, .int (bI (parB i (fun j => sH (S j) x y dx dy)))), (0, .ref rg), (1, .int x), (2, .int y), (3, .long dx), (5, .long dy)] → hW D ah s.heap ah H20 L20 → W p l e R s m args below meth c H20 L20 (0 + 0) (0 + 0) Q (F0 m 20 ls []) := by
      intro k20
      induction k20 with
      | zero => intro i ls H20 L20 hk; exact absurd hk (Nat.not_lt_zero _)
      | succ k20 ih20 =>
        intro i ls H20 L20 hk20 hi hl hw
        refine lv_iload hx hb dX5_holds_20 (lv_at hl 0 rfl) ?_
        refine lv_aload_n hx hb dX5_holds_22 rfl (lv_at hl 2 rfl) ?_
        refine h_get (ci := 5) (v := .int (nI n)) (C := RX5) (T := TX5) (N := 7) hx hb hts kl_X5 hown hK hw hrg rfl 4 (by decide) (hts _ kf_X5_35) rfl rfl dX5_holds_23 ?_
        refine lv_icmp_ge (tgt := 65) hx hb dX5_holds_26 (by decide) (fun c_7 => ?_) (fun c_7 => ?_)
        · skip
          have c_7 : n ≤ i := (nI_lex (by rfl) (by rfl) (by omega) (by omega)).mp c_7
          refine lv_iload hx hb dX5_holds_65 (lv_at hl 1 rfl) ?_
          rw [hQ]
          exact h_zret hx hb hr hlk hsz hw (by simp) (by simp) dX5_holds_67 (bI_01 _) ⟨congrArg (fun z => some (Value.int (bI z))) ((congrArg (fun z => parB z _) (show i = n by omega)).trans (rgHolds_i (nF c_6)).symm), rfl⟩
        · skip
          have c_7 : ¬ (n ≤ i) := (not_congr (nI_lex (by rfl) (by rfl) (by omega) (by omega))).mp c_7
          refine lv_aload_n hx hb dX5_holds_29 rfl (lv_at hl 2 rfl) ?_
          refine h_get (ci := 5) (v := .ref sa) (C := RX5) (T := TX5) (N := 7) hx hb hts kl_X5 hown hK hw hrg rfl 3 (by decide) (hts _ kf_X5_31) rfl rfl dX5_holds_30 ?_
          refine lv_iload hx hb dX5_holds_33 (lv_at hl 0 rfl) ?_
          obtain ⟨hs_8_f, hs_8_g, hs_8_b⟩ := hsg i (by omega)
          refine h_aald hx hb hK hw 2 rfl hsa i rfl (by omega) (by omega) hs_8_f dX5_holds_35 ?_
          refine lv_iload_n hx hb dX5_holds_36 rfl (lv_at hl 3 rfl) ?_
          refine lv_iload_n hx hb dX5_holds_37 rfl (lv_at hl 4 rfl) ?_
          refine lv_lload_n hx hb dX5_holds_38 rfl (lv_at hl 5 rfl) ?_
          refine lv_lload hx hb dX5_holds_39 (lv_at hl 6 rfl) ?_
          refine h_callV (n := 4) (ci := 7) (b := (G i)) (As := [.int x, .int y, .long dx, .long dy]) (rest := []) ⟨hx, hb, hml, hown, hts⟩ hK hw (c_X7_isHitFrom l D dT ah H20.size (G i) rg (B i) (rgN n G i) (S i 0) (S i 1) (S i 2) (S i 3) (S i 4) hs_8_g x y dx dy) ko_X7_isHitFrom km_X5_68 ki_X7_isHitFrom ks_X7_isHitFrom kn_X7 (by decide +kernel) rfl hs_8_g rfl hl.1 rfl (by simp [Value.category]) dX5_holds_41 (by rw [hR]; exact ⟨rfl, rfl, Nat.le_of_ble_eq_true rfl, Nat.le_of_ble_eq_true rfl, by simp, by simp⟩) (fun r_9 ah_10 H_11 L_12 st_13 hp hw hst => ?_)
          obtain ⟨rfl, rfl⟩ := hp
          have hst : st_13 = [.int (bI (sgHit (S i 1) (S i 2) (S i 3) (S i 4) x y dx dy))] := hst
          subst hst
          refine lv_if_eq (tgt := 59) hx hb dX5_holds_44 (by decide) (fun c_14 => ?_) (fun c_14 => ?_)
          · skip
            have c_14 : sgHit (S i 1) (S i 2) (S i 3) (S i 4) x y dx dy = false := bI_0.mp c_14
            have e7_9 : bI (parB i (fun j => sH (S j) x y dx dy)) = bI (parB (i + 1) (fun j => sH (S j) x y dx dy)) := parB_k c_14
            rw [e7_9] at hl
            refine lv_iinc (v := nI (i + 1)) (lv' := [(8, .int (nI (i + 1))), (7, .int (bI (parB (i + 1) (fun j => sH (S j) x y dx dy)))), (0, .ref rg), (1, .int x), (2, .int y), (3, .long dx), (5, .long dy)]) hx hb dX5_holds_59 hl (k := 0) rfl (nI_c _ 1) (by decide) rfl (fun ls hl => ?_)
            refine lv_goto (tgt := 20) hx hb dX5_holds_62 (by decide) ?_
            refine W.widen (k := 0 + 0) (n := 0 + 0) (by omega) (by omega) ?_
            exact ih20 (i + 1) ls _ _ (by omega) (by omega) (lv_sub hl [0, 1, 2, 3, 4, 5, 6] rfl) hw
          · skip
            have c_14 : ¬ (sgHit (S i 1) (S i 2) (S i 3) (S i 4) x y dx dy = false) := (not_congr bI_0).mp c_14
            refine lv_iload hx hb dX5_holds_47 (lv_at hl 1 rfl) ?_
            have J_18 : ∀ (v_17 : Int32) (ls : Array Slot), lv_has ls 9 [(8, .int (nI i)), (7, .int (bI (parB i (fun j => sH (S j) x y dx dy)))), (0, .ref rg), (1, .int x), (2, .int y), (3, .long dx), (5, .long dy)] → v_17 = (if (parB i (fun j => sH (S j) x y dx dy)) = false then 1 else 0) → W p l e R s m args below meth c H_11 L_12 (0 + 0 + 0) (0 + 0 + 0) Q (F0 m 57 ls [.int v_17]) := by
              intro v_17 ls hl ev_17
              refine lv_istore (lv' := [(7, .int v_17), (8, .int (nI i)), (0, .ref rg), (1, .int x), (2, .int y), (3, .long dx), (5, .long dy)]) hx hb dX5_holds_57 hl (by decide) rfl (fun ls hl => ?_)
              have e7_9 : v_17 = bI (parB (i + 1) (fun j => sH (S j) x y dx dy)) := parB_x (v := v_17) (fun h => c_14 h) ev_17
              rw [e7_9] at hl
              refine lv_iinc (v := nI (i + 1)) (lv' := [(8, .int (nI (i + 1))), (7, .int (bI (parB (i + 1) (fun j => sH (S j) x y dx dy)))), (0, .ref rg), (1, .int x), (2, .int y), (3, .long dx), (5, .long dy)]) hx hb dX5_holds_59 hl (k := 1) rfl (nI_c _ 1) (by decide) rfl (fun ls hl => ?_)
              refine lv_goto (tgt := 20) hx hb dX5_holds_62 (by decide) ?_
              refine W.widen (k := 0 + 0) (n := 0 + 0) (by omega) (by omega) ?_
              exact ih20 (i + 1) ls _ _ (by omega) (by omega) (lv_sub hl [0, 1, 2, 3, 4, 5, 6] rfl) hw
            refine lv_if_ne (tgt := 56) hx hb dX5_holds_49 (by decide) (fun c_16 => ?_) (fun c_16 => ?_)
            · skip
              have c_16 : ¬ ((parB i (fun j => sH (S j) x y dx dy)) = false) := (not_congr bI_0).mp c_16
              refine lv_iconst (v := 0) hx hb dX5_holds_56 (by decide) ?_
              exact J_18 0 ls (lv_sub hl [0, 1, 2, 3, 4, 5, 6] rfl) (by rw [if_neg c_16])
            · skip
              have c_16 : (parB i (fun j => sH (S j) x y dx dy)) = false := bI_0.mp c_16
              refine lv_iconst (v := 1) hx hb dX5_holds_52 (by decide) ?_
              refine lv_goto (tgt := 57) hx hb dX5_holds_53 (by decide) ?_
              exact J_18 1 ls (lv_sub hl [0, 1, 2, 3, 4, 5, 6] rfl) (by rw [if_pos c_16])
    exact LP20 ((n - 0) + 1) 0 ls _ _ (Nat.lt_succ_self _) (by omega) (lv_sub hl [0, 1, 2, 3, 4, 5, 6] rfl) hw
  · skip
    have c_6 : bxHas (bb 0) (bb 1) (bb 2) (bb 3) x y = false := bI_0.mp c_6
    refine lv_iconst (v := 0) hx hb dX5_holds_12 (by decide) ?_
    rw [hQ]
    exact h_zret hx hb hr hlk hsz hw (by simp) (by simp) dX5_holds_13 (by decide) ⟨congrArg (fun z => some (Value.int (bI z))) (a₁ := false) (rgHolds_o c_6).symm, rfl⟩

set_option maxHeartbeats 4000000 in
set_option maxRecDepth 100000 in
theorem c_X5_liesIn (l : Launch) (D : va_G) (dT : Nat → ClassId) (ah : hA) (sz : Nat) (rg bx sa cap n : Nat) (pt rn df : Int32) (cl : Bool) (bb : Nat → Int32) (F : Nat → Option Nat) (G B : Nat → Nat) (S : Nat → Nat → Int32) (hg : rgAt dT ah rg bx sa cap n pt rn df cl bb F G B S) (rg2 bx2 sa2 cap2 n2 : Nat) (pt2 rn2 df2 : Int32) (cl2 : Bool) (bb2 : Nat → Int32) (F2 : Nat → Option Nat) (G2 B2 : Nat → Nat) (S2 : Nat → Nat → Int32) (hg2 : rgAt dT ah rg2 bx2 sa2 cap2 n2 pt2 rn2 df2 cl2 bb2 F2 G2 B2 S2) : hMet l yX5_liesIn cX5_liesIn 4 (some .boolean) ({ frames := 3, cells := 0, slots := 0, locals := 80 }) D dT [.ref rg, .ref rg2] ah sz (fun r ah2 => r = some (.int (bI (rgIn n S bb2 n2 S2))) ∧ ah = ah2) 0 0 := by
  refine h_met (by decide) (Nat.le_of_ble_eq_true rfl) ?_
  intro p e s m below meth c ls R Q args hav hR hQ hB hl hsz hw
  obtain ⟨hx, hb, hml, hr, hts, hown, hlk, hin, hK⟩ := hB
  have hown : s.vm.findClass RX5 = some m.cls := hown
  have hl : lv_has ls 4 [(0, .ref rg), (1, .ref rg2)] := hl
  have hg20 := hg2
  obtain ⟨hrg, hbx, hsa, hnc, hcp, hsg⟩ := hg
  have hrg2 := hg2.1
  refine lv_iconst (v := 0) hx hb dX5_liesIn_0 (by decide) ?_
  refine lv_istore_n (lv' := [(2, .int 0), (0, .ref rg), (1, .ref rg2)]) hx hb dX5_liesIn_1 rfl hl (by decide) rfl (fun ls hl => ?_)
  have LP2 : ∀ (k2 : Nat) (i : Nat) (ls : Array Slot) (H2 : Heap) (L2 : List Loc), (n - i < k2) → (i ≤ n) → (∀ j, j < i → rgOff bb2 n2 S2 (S j) = false) → lv_has ls 4 [(2, .int (nI i)), (0, .ref rg), (1, .ref rg2)] → hW D ah s.heap ah H2 L2 → W p l e R s m args below meth c H2 L2 (0) (0) Q (F0 m 2 ls []) := by
    intro k2
    induction k2 with
    | zero => intro i ls H2 L2 hk; exact absurd hk (Nat.not_lt_zero _)
    | succ k2 ih2 =>
      intro i ls H2 L2 hk2 hi hpv hl hw
      refine lv_iload_n hx hb dX5_liesIn_2 rfl (lv_at hl 0 rfl) ?_
      refine lv_aload_n hx hb dX5_liesIn_3 rfl (lv_at hl 1 rfl) ?_
      refine h_get (ci := 5) (v := .int (nI n)) (C := RX5) (T := TX5) (N := 7) hx hb hts kl_X5 hown hK hw hrg rfl 4 (by decide) (hts _ kf_X5_35) rfl rfl dX5_liesIn_4 ?_
      refine lv_icmp_ge (tgt := 53) hx hb dX5_liesIn_7 (by decide) (fun c_1 => ?_) (fun c_1 => ?_)
      · skip
        have c_1 : n ≤ i := (nI_lex (by rfl) (by rfl) (by omega) (by omega)).mp c_1
        refine lv_aload_n hx hb dX5_liesIn_53 rfl (lv_at hl 1 rfl) ?_
        refine h_get (ci := 5) (v := .int (nI n)) (C := RX5) (T := TX5) (N := 7) hx hb hts kl_X5 hown hK hw hrg rfl 4 (by decide) (hts _ kf_X5_35) rfl rfl dX5_liesIn_54 ?_
        refine lv_if_ne (tgt := 62) hx hb dX5_liesIn_57 (by decide) (fun c_2 => ?_) (fun c_2 => ?_)
        · skip
          have c_2 : ¬ (n = 0) := (not_congr (nI_eqx (by rfl) (by decide) (by omega) (by omega))).mp c_2
          refine lv_aload_n hx hb dX5_liesIn_62 rfl (lv_at hl 1 rfl) ?_
          refine h_get (ci := 5) (v := .ref sa) (C := RX5) (T := TX5) (N := 7) hx hb hts kl_X5 hown hK hw hrg rfl 3 (by decide) (hts _ kf_X5_31) rfl rfl dX5_liesIn_63 ?_
          refine lv_iconst (v := 0) hx hb dX5_liesIn_66 (by decide) ?_
          obtain ⟨hs_3_f, hs_3_g, hs_3_b⟩ := hsg 0 (by omega)
          refine h_aald hx hb hK hw 2 rfl hsa 0 (by decide) (by omega) (by omega) hs_3_f dX5_liesIn_67 ?_
          refine lv_astore_n (lv' := [(2, .ref (G 0)), (0, .ref rg), (1, .ref rg2)]) hx hb dX5_liesIn_68 rfl hl (by decide) rfl (fun ls hl => ?_)
          refine lv_aload_n hx hb dX5_liesIn_69 rfl (lv_at hl 2 rfl) ?_
          refine lv_aload_n hx hb dX5_liesIn_70 rfl (lv_at hl 0 rfl) ?_
          refine h_getN (ci := 7) (v := .int (S 0 1)) (C := RX7) (T := TX7) (N := 8) hx hb hts kl_X7 hown hK hw hs_3_g rfl 2 (by decide) (va_Nw.use rfl (hK.2.1 _ (List.mem_of_getElem? (i := 19) rfl))) rfl rfl dX5_liesIn_71 ?_
          refine lv_aload_n hx hb dX5_liesIn_74 rfl (lv_at hl 0 rfl) ?_
          refine h_getN (ci := 7) (v := .int (S 0 2)) (C := RX7) (T := TX7) (N := 8) hx hb hts kl_X7 hown hK hw hs_3_g rfl 3 (by decide) (va_Nw.use rfl (hK.2.1 _ (List.mem_of_getElem? (i := 22) rfl))) rfl rfl dX5_liesIn_75 ?_
          refine lv_aload_n hx hb dX5_liesIn_78 rfl (lv_at hl 0 rfl) ?_
          refine h_getN (ci := 7) (v := .int (S 0 3)) (C := RX7) (T := TX7) (N := 8) hx hb hts kl_X7 hown hK hw hs_3_g rfl 4 (by decide) (va_Nw.use rfl (hK.2.1 _ (List.mem_of_getElem? (i := 25) rfl))) rfl rfl dX5_liesIn_79 ?_
          refine lv_i2l (v := (S 0 3).toInt64) hx hb dX5_liesIn_82 rfl ?_
          refine lv_aload_n hx hb dX5_liesIn_83 rfl (lv_at hl 0 rfl) ?_
          refine h_getN (ci := 7) (v := .int (S 0 1)) (C := RX7) (T := TX7) (N := 8) hx hb hts kl_X7 hown hK hw hs_3_g rfl 2 (by decide) (va_Nw.use rfl (hK.2.1 _ (List.mem_of_getElem? (i := 19) rfl))) rfl rfl dX5_liesIn_84 ?_
          refine lv_i2l (v := (S 0 1).toInt64) hx hb dX5_liesIn_87 rfl ?_
          refine lv_lsub hx hb dX5_liesIn_88 ?_
          refine lv_aload_n hx hb dX5_liesIn_89 rfl (lv_at hl 0 rfl) ?_
          refine h_getN (ci := 7) (v := .int (S 0 4)) (C := RX7) (T := TX7) (N := 8) hx hb hts kl_X7 hown hK hw hs_3_g rfl 5 (by decide) (va_Nw.use rfl (hK.2.1 _ (List.mem_of_getElem? (i := 27) rfl))) rfl rfl dX5_liesIn_90 ?_
          refine lv_i2l (v := (S 0 4).toInt64) hx hb dX5_liesIn_93 rfl ?_
          refine lv_aload_n hx hb dX5_liesIn_94 rfl (lv_at hl 0 rfl) ?_
          refine h_getN (ci := 7) (v := .int (S 0 2)) (C := RX7) (T := TX7) (N := 8) hx hb hts kl_X7 hown hK hw hs_3_g rfl 3 (by decide) (va_Nw.use rfl (hK.2.1 _ (List.mem_of_getElem? (i := 22) rfl))) rfl rfl dX5_liesIn_95 ?_
          refine lv_i2l (v := (S 0 2).toInt64) hx hb dX5_liesIn_98 rfl ?_
          refine lv_lsub hx hb dX5_liesIn_99 ?_
          refine h_callV (n := 4) (ci := 5) (b := rg2) (As := [.int (S 0 1), .int (S 0 2), .long ((S 0 3).toInt64 - (S 0 1).toInt64), .long ((S 0 4).toInt64 - (S 0 2).toInt64)]) (rest := []) ⟨hx, hb, hml, hown, hts⟩ hK hw (c_X5_holds l D dT ah H2.size rg2 bx2 sa2 cap2 n2 pt2 rn2 df2 cl2 bb2 F2 G2 B2 S2 hg2 (S 0 1) (S 0 2) ((S 0 3).toInt64 - (S 0 1).toInt64) ((S 0 4).toInt64 - (S 0 2).toInt64)) ko_X5_holds km_X5_73 ki_X5_holds ks_X5_holds kn_X5 (by decide +kernel) rfl hrg2 rfl hl.1 rfl (by simp [Value.category]) dX5_liesIn_100 (by rw [hR]; exact ⟨rfl, rfl, Nat.le_of_ble_eq_true rfl, Nat.le_of_ble_eq_true rfl, by simp, by simp⟩) (fun r_4 ah_5 H_6 L_7 st_8 hp hw hst => ?_)
          obtain ⟨rfl, rfl⟩ := hp
          have hst : st_8 = [.int (bI (rgHolds bb2 n2 S2 (S 0 1) (S 0 2) ((S 0 3).toInt64 - (S 0 1).toInt64) ((S 0 4).toInt64 - (S 0 2).toInt64)))] := hst
          subst hst
          rw [hQ]
          exact h_zret hx hb hr hlk hsz hw (by simp) (by simp) dX5_liesIn_103 (bI_01 _) ⟨congrArg (fun z => some (Value.int (bI z))) (rgIn_n (by omega) (fun j hj => hpv j (by omega))).symm, rfl⟩
        · skip
          have c_2 : n = 0 := (nI_eqx (by rfl) (by decide) (by omega) (by omega)).mp c_2
          refine lv_iconst (v := 0) hx hb dX5_liesIn_60 (by decide) ?_
          rw [hQ]
          exact h_zret hx hb hr hlk hsz hw (by simp) (by simp) dX5_liesIn_61 (by decide) ⟨congrArg (fun z => some (Value.int (bI z))) (a₁ := false) (rgIn_0 (by omega)).symm, rfl⟩
      · skip
        have c_1 : ¬ (n ≤ i) := (not_congr (nI_lex (by rfl) (by rfl) (by omega) (by omega))).mp c_1
        refine lv_aload_n hx hb dX5_liesIn_10 rfl (lv_at hl 1 rfl) ?_
        refine h_get (ci := 5) (v := .ref sa) (C := RX5) (T := TX5) (N := 7) hx hb hts kl_X5 hown hK hw hrg rfl 3 (by decide) (hts _ kf_X5_31) rfl rfl dX5_liesIn_11 ?_
        refine lv_iload_n hx hb dX5_liesIn_14 rfl (lv_at hl 0 rfl) ?_
        obtain ⟨hs_9_f, hs_9_g, hs_9_b⟩ := hsg i (by omega)
        refine h_aald hx hb hK hw 2 rfl hsa i rfl (by omega) (by omega) hs_9_f dX5_liesIn_15 ?_
        refine lv_astore_n (lv' := [(3, .ref (G i)), (2, .int (nI i)), (0, .ref rg), (1, .ref rg2)]) hx hb dX5_liesIn_16 rfl hl (by decide) rfl (fun ls hl => ?_)
        refine lv_aload_n hx hb dX5_liesIn_17 rfl (lv_at hl 3 rfl) ?_
        refine lv_aload_n hx hb dX5_liesIn_18 rfl (lv_at hl 0 rfl) ?_
        refine h_getN (ci := 7) (v := .int (S i 1)) (C := RX7) (T := TX7) (N := 8) hx hb hts kl_X7 hown hK hw hs_9_g rfl 2 (by decide) (va_Nw.use rfl (hK.2.1 _ (List.mem_of_getElem? (i := 19) rfl))) rfl rfl dX5_liesIn_19 ?_
        refine lv_aload_n hx hb dX5_liesIn_22 rfl (lv_at hl 0 rfl) ?_
        refine h_getN (ci := 7) (v := .int (S i 2)) (C := RX7) (T := TX7) (N := 8) hx hb hts kl_X7 hown hK hw hs_9_g rfl 3 (by decide) (va_Nw.use rfl (hK.2.1 _ (List.mem_of_getElem? (i := 22) rfl))) rfl rfl dX5_liesIn_23 ?_
        refine h_callV (n := 2) (ci := 5) (b := rg2) (As := [.int (S i 1), .int (S i 2)]) (rest := []) ⟨hx, hb, hml, hown, hts⟩ hK hw (c_X5_passes l D dT ah H2.size rg2 bx2 sa2 cap2 n2 pt2 rn2 df2 cl2 bb2 F2 G2 B2 S2 hg2 (S i 1) (S i 2)) ko_X5_passes km_X5_72 ki_X5_passes ks_X5_passes kn_X5 (by decide +kernel) rfl hrg2 rfl hl.1 rfl (by simp [Value.category]) dX5_liesIn_26 (by rw [hR]; exact ⟨rfl, rfl, Nat.le_of_ble_eq_true rfl, Nat.le_of_ble_eq_true rfl, by simp, by simp⟩) (fun r_10 ah_11 H_12 L_13 st_14 hp hw hst => ?_)
        obtain ⟨rfl, rfl⟩ := hp
        have hst : st_14 = [.int (bI (rgPasses bb2 n2 S2 (S i 1) (S i 2)))] := hst
        subst hst
        refine lv_if_ne (tgt := 47) hx hb dX5_liesIn_29 (by decide) (fun c_15 => ?_) (fun c_15 => ?_)
        · skip
          have c_15 : ¬ (rgPasses bb2 n2 S2 (S i 1) (S i 2) = false) := (not_congr bI_0).mp c_15
          refine lv_iinc (v := nI (i + 1)) (lv' := [(2, .int (nI (i + 1))), (3, .ref (G i)), (0, .ref rg), (1, .ref rg2)]) hx hb dX5_liesIn_47 hl (k := 1) rfl (nI_c _ 1) (by decide) rfl (fun ls hl => ?_)
          refine lv_goto (tgt := 2) hx hb dX5_liesIn_50 (by decide) ?_
          refine W.widen (k := 0) (n := 0) (by omega) (by omega) ?_
          exact ih2 (i + 1) ls _ _ (by omega) (by omega) (lt_s hpv (rgOff_f c_15)) (lv_sub hl [0, 2, 3] rfl) hw
        · skip
          have c_15 : rgPasses bb2 n2 S2 (S i 1) (S i 2) = false := bI_0.mp c_15
          refine lv_aload_n hx hb dX5_liesIn_32 rfl (lv_at hl 3 rfl) ?_
          refine lv_aload_n hx hb dX5_liesIn_33 rfl (lv_at hl 0 rfl) ?_
          refine h_getN (ci := 7) (v := .int (S i 1)) (C := RX7) (T := TX7) (N := 8) hx hb hts kl_X7 hown hK hw hs_9_g rfl 2 (by decide) (va_Nw.use rfl (hK.2.1 _ (List.mem_of_getElem? (i := 19) rfl))) rfl rfl dX5_liesIn_34 ?_
          refine lv_aload_n hx hb dX5_liesIn_37 rfl (lv_at hl 0 rfl) ?_
          refine h_getN (ci := 7) (v := .int (S i 2)) (C := RX7) (T := TX7) (N := 8) hx hb hts kl_X7 hown hK hw hs_9_g rfl 3 (by decide) (va_Nw.use rfl (hK.2.1 _ (List.mem_of_getElem? (i := 22) rfl))) rfl rfl dX5_liesIn_38 ?_
          refine lv_lconst (v := 0) hx hb dX5_liesIn_41 (by decide) ?_
          refine lv_lconst (v := 0) hx hb dX5_liesIn_42 (by decide) ?_
          refine h_callV (n := 4) (ci := 5) (b := rg2) (As := [.int (S i 1), .int (S i 2), .long 0, .long 0]) (rest := []) ⟨hx, hb, hml, hown, hts⟩ hK hw (c_X5_holds l D dT ah H_12.size rg2 bx2 sa2 cap2 n2 pt2 rn2 df2 cl2 bb2 F2 G2 B2 S2 hg2 (S i 1) (S i 2) 0 0) ko_X5_holds km_X5_73 ki_X5_holds ks_X5_holds kn_X5 (by decide +kernel) rfl hrg2 rfl hl.1 rfl (by simp [Value.category]) dX5_liesIn_43 (by rw [hR]; exact ⟨rfl, rfl, Nat.le_of_ble_eq_true rfl, Nat.le_of_ble_eq_true rfl, by simp, by simp⟩) (fun r_17 ah_18 H_19 L_20 st_21 hp hw hst => ?_)
          obtain ⟨rfl, rfl⟩ := hp
          have hst : st_21 = [.int (bI (rgHolds bb2 n2 S2 (S i 1) (S i 2) 0 0))] := hst
          subst hst
          rw [hQ]
          exact h_zret hx hb hr hlk hsz hw (by simp) (by simp) dX5_liesIn_46 (bI_01 _) ⟨congrArg (fun z => some (Value.int (bI z))) (rgIn_a (i := i) (by omega) (rgOff_t c_15) hpv).symm, rfl⟩
  exact LP2 ((n - 0) + 1) 0 ls _ _ (Nat.lt_succ_self _) (by omega) lt_0 (lv_sub hl [0, 1, 2] rfl) hw

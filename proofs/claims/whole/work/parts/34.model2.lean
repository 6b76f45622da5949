/-! ShapeJudgeModel: along a ring -/
def nxW (p m k : Nat) : Nat := if k + 1 < p + m then k else p
theorem nxW_e {p m k : Nat} : (if k + 1 < p + m then nI k else nI p) = nI (nxW p m k) := by unfold nxW; by_cases h : k + 1 < p + m <;> simp [h]
theorem nxW_b {p m k : Nat} (h : p ≤ k) (hm : 2 ≤ m) : p ≤ nxW p m k ∧ nxW p m k + 1 < p + m := by unfold nxW; split <;> omega
/-- the next step of the ring at p with m points that leads elsewhere -/
def nxF (X Y : Nat → Int32) (p m : Nat) : Nat → Nat → Nat → Nat
  | 0, _, a => a
  | n + 1, k, a => if mSeg X Y (nxW p m k) = false then nxF X Y p m n (nxW p m k + 1) a else nxW p m k
theorem nxF_n {X Y : Nat → Int32} {p m n k a : Nat} (hn : n < m) (h : mSeg X Y (nxW p m k) = false) : nxF X Y p m (m - (n + 1)) (nxW p m k + 1) a = nxF X Y p m (m - n) k a := by
  rw [show m - n = (m - (n + 1)) + 1 by omega, nxF, if_pos h]
theorem nxF_y {X Y : Nat → Int32} {p m n k a : Nat} (hn : n < m) (h : ¬ mSeg X Y (nxW p m k) = false) : nxF X Y p m (m - n) k a = nxW p m k := by
  rw [show m - n = (m - (n + 1)) + 1 by omega, nxF, if_neg h]
theorem nxF_0 {X Y : Nat → Int32} {p m n k a : Nat} (hn : m ≤ n) : nxF X Y p m (m - n) k a = a := by rw [show m - n = 0 by omega, nxF]
theorem bI_and2 {a b : Bool} : (if a = false then (0 : Int32) else (if b = false then 0 else 1)) = bI (a && b) := by cases a <;> cases b <;> rfl
theorem bI_not {a : Bool} : (if a = false then (1 : Int32) else 0) = bI (!a) := by cases a <;> rfl
def mOnR (X Y : Nat → Int32) (RP RN : Nat → Nat) (x y : Int32) (r : Nat) : Bool := anyB (RN r - 1) (fun k9 => mSeg X Y (RP r + k9) && mOn X Y x y (RP r + k9))
theorem anyB_n {f : Nat → Bool} {j : Nat} (h : anyB j f = false) : f j = anyB (j + 1) f := by rw [anyB, h]; rfl
theorem anyB_u {f : Nat → Bool} {j n : Nat} {b : Bool} (hj : j ≤ n) (h : anyB j f = true) (hb : b = anyB j f) : b = anyB n f := by
  rw [hb, h]; symm
  induction n with
  | zero => rw [show j = 0 by omega] at h; exact h
  | succ n ih =>
    by_cases e : j = n + 1
    · rw [← e]; exact h
    · rw [anyB, ih (by omega)]; rfl
/-- above a height, or on it and the direction leads down -/
def mAb (v y dy : Int32) : Bool := if y < v then true else (if v = y then (if 0 ≤ dy then false else true) else false)
theorem mAb_e {v y dy : Int32} : (if y < v then (1 : Int32) else (if v = y then (if 0 ≤ dy then 0 else 1) else 0)) = bI (mAb v y dy) := by
  unfold mAb
  by_cases h1 : y < v
  · rw [if_pos h1, if_pos h1]; rfl
  · rw [if_neg h1, if_neg h1]
    by_cases h2 : v = y
    · rw [if_pos h2, if_pos h2]
      by_cases h3 : 0 ≤ dy
      · rw [if_pos h3, if_pos h3]; rfl
      · rw [if_neg h3, if_neg h3]; rfl
    · rw [if_neg h2, if_neg h2]; rfl
theorem lt_p {P : Nat → Prop} {i : Nat} (h : ∀ j, j < i → P j) (hi : P i) : ∀ j, j < i + 1 → P j := fun j hj => by
  by_cases e : j = i
  · rw [e]; exact hi
  · exact h j (by omega)
def mTurn (X Y : Nat → Int32) (x y dx dy : Int32) (a : Nat) : Int32 :=
  if mSide X Y a (a + 1) x y = 0 then sgn ((((X (a + 1)).toInt64 - (X a).toInt64) * (dy).toInt64) - (((Y (a + 1)).toInt64 - (Y a).toInt64) * (dx).toInt64)) else mSide X Y a (a + 1) x y
/-- whether a line to the right meets the step -/
def mHit (X Y : Nat → Int32) (x y dx dy : Int32) (a : Nat) : Bool :=
  if bI (mAb (Y a) y dy) = bI (mAb (Y (a + 1)) y dy) then false else (if (if mTurn X Y x y dx dy a ≤ 0 then (0 : Int32) else 1) = bI (mAb (Y (a + 1)) y dy) then true else false)
theorem mHit_e {X Y : Nat → Int32} {x y dx dy : Int32} {a : Nat} (h : bI (mAb (Y a) y dy) = bI (mAb (Y (a + 1)) y dy)) : mHit X Y x y dx dy a = false := if_pos h
theorem mHit_n {X Y : Nat → Int32} {x y dx dy s v : Int32} {a : Nat} (h : ¬ bI (mAb (Y a) y dy) = bI (mAb (Y (a + 1)) y dy)) (hs : s = mTurn X Y x y dx dy a) (hv : v = if s ≤ 0 then 0 else 1) (h2 : ¬ v = bI (mAb (Y (a + 1)) y dy)) : mHit X Y x y dx dy a = false := by
  unfold mHit; rw [if_neg h, ← hs, ← hv, if_neg h2]
theorem mHit_y {X Y : Nat → Int32} {x y dx dy s v : Int32} {a : Nat} (h : ¬ bI (mAb (Y a) y dy) = bI (mAb (Y (a + 1)) y dy)) (hs : s = mTurn X Y x y dx dy a) (hv : v = if s ≤ 0 then 0 else 1) (h2 : v = bI (mAb (Y (a + 1)) y dy)) : mHit X Y x y dx dy a = true := by
  unfold mHit; rw [if_neg h, ← hs, ← hv, if_pos h2]
theorem parB_f0 {f : Nat → Bool} {j : Nat} {b : Bool} (hb : b = parB j f) (h : f j = false) : b = parB (j + 1) f := by rw [parB, if_pos h]; exact hb
theorem parB_t0 {f : Nat → Bool} {j : Nat} {b : Bool} (hb : b = parB j f) (h : f j = true) : (!b) = parB (j + 1) f := by rw [parB, if_neg (by rw [h]; decide), hb]
def mOdd (X Y : Nat → Int32) (RP RN : Nat → Nat) (r : Nat) (x y dx dy : Int32) : Bool := parB (RN r - 1) (fun k9 => mHit X Y x y dx dy (RP r + k9))
/-- the first step that leads elsewhere, of the first j -/
def liI (X Y : Nat → Int32) (p j : Nat) (v : Int32) : Prop :=
  v = -1 ∧ (∀ i, i < j → mSeg X Y (p + i) = false) ∨ ∃ k, k < j ∧ v = nI (p + k) ∧ mSeg X Y (p + k) = true ∧ ∀ i, i < k → mSeg X Y (p + i) = false
theorem liI_f {X Y : Nat → Int32} {p j : Nat} {v : Int32} (h : liI X Y p j v) (hs : mSeg X Y (p + j) = false) : liI X Y p (j + 1) v := by
  rcases h with ⟨h1, h2⟩ | ⟨k, h1, h2⟩
  · exact Or.inl ⟨h1, lt_p h2 hs⟩
  · exact Or.inr ⟨k, by omega, h2⟩
theorem liI_t {X Y : Nat → Int32} {p j : Nat} {v v2 : Int32} (h : liI X Y p j v) (hp : p ≤ 100000) (hj : j ≤ 100000) (hs : ¬ mSeg X Y (p + j) = false) (e : v2 = if 0 ≤ v then v else nI (p + j)) : liI X Y p (j + 1) v2 := by
  rcases h with ⟨h1, h2⟩ | ⟨k, h1, h2, h3⟩
  · rw [h1, if_neg (by decide)] at e; exact Or.inr ⟨j, by omega, e, eq_true_of_ne_false hs, h2⟩
  · rw [if_pos (by rw [h2]; exact (nI_lex (a := 0) (by decide) (by rfl) (by omega) (by omega)).mpr (Nat.zero_le _))] at e; exact Or.inr ⟨k, by omega, e.trans h2, h3⟩
theorem liI_e {X Y : Nat → Int32} {p j n : Nat} {v : Int32} (h : liI X Y p j v) (hn : n ≤ j) (hs : ∃ k, k < n ∧ mSeg X Y (p + k) = true) : ∃ k, k < j ∧ v = nI (p + k) ∧ mSeg X Y (p + k) = true ∧ ∀ i, i < k → mSeg X Y (p + i) = false := by
  rcases h with ⟨h1, h2⟩ | h
  · obtain ⟨k, hk, h3⟩ := hs
    rw [h2 k (by omega)] at h3; cases h3
  · exact h
def mIn (X Y : Nat → Int32) (RP RN : Nat → Nat) (r q : Nat) : Bool := match firstB (RN r - 1) (fun k9 => mSeg X Y (RP r + k9) && !mOnR X Y RP RN (X (RP r + k9)) (Y (RP r + k9)) q) with
  | some k => mOdd X Y RP RN q (X (RP r + k)) (Y (RP r + k)) 0 0
  | none => match firstB (RN r - 1) (fun k9 => mSeg X Y (RP r + k9)) with
    | some k => mOdd X Y RP RN q (X (RP r + k)) (Y (RP r + k)) (X (RP r + k + 1) - X (RP r + k)) (Y (RP r + k + 1) - Y (RP r + k))
    | none => false
theorem mIn_s {X Y : Nat → Int32} {RP RN : Nat → Nat} {r q k : Nat} (hk : k < RN r - 1) (h : ¬ mSeg X Y (RP r + k) = false) (h2 : mOnR X Y RP RN (X (RP r + k)) (Y (RP r + k)) q = false) (hb : ∀ i, i < k → (mSeg X Y (RP r + i) && !mOnR X Y RP RN (X (RP r + i)) (Y (RP r + i)) q) = false) : mIn X Y RP RN r q = mOdd X Y RP RN q (X (RP r + k)) (Y (RP r + k)) 0 0 := by
  unfold mIn; rw [firstB_some (f := fun k9 => mSeg X Y (RP r + k9) && !mOnR X Y RP RN (X (RP r + k9)) (Y (RP r + k9)) q) hk (by show (mSeg X Y (RP r + k) && !mOnR X Y RP RN (X (RP r + k)) (Y (RP r + k)) q) = true; rw [eq_true_of_ne_false h, h2]; rfl) hb]
theorem mIn_f {X Y : Nat → Int32} {RP RN : Nat → Nat} {r q k : Nat} (hb : ∀ i, i < RN r - 1 → (mSeg X Y (RP r + i) && !mOnR X Y RP RN (X (RP r + i)) (Y (RP r + i)) q) = false) (hk : k < RN r - 1) (h : mSeg X Y (RP r + k) = true) (ho : ∀ i, i < k → mSeg X Y (RP r + i) = false) : mIn X Y RP RN r q = mOdd X Y RP RN q (X (RP r + k)) (Y (RP r + k)) (X (RP r + k + 1) - X (RP r + k)) (Y (RP r + k + 1) - Y (RP r + k)) := by
  unfold mIn; rw [firstB_none hb, firstB_some (f := fun k9 => mSeg X Y (RP r + k9)) hk h ho]
def frN (X Y : Nat → Int32) (p k : Nat) : Nat := if anyB k (fun i9 => smP X Y (p + i9) (p + k)) = false then 1 else 0
theorem frN_le (X Y : Nat → Int32) (p k : Nat) : frN X Y p k ≤ 1 := by unfold frN; split <;> omega
theorem frN_e {X Y : Nat → Int32} {p j k : Nat} (h : j = k) : (if (!anyB j (fun i9 => smP X Y (p + i9) (p + k))) = false then (0 : Int32) else 1) = nI (frN X Y p k) := by
  subst h; unfold frN; cases anyB j (fun i9 => smP X Y (p + i9) (p + j)) <;> rfl
theorem frs_e {f : Nat → Bool} {j : Nat} : (if (!anyB j f) = false then (0 : Int32) else (if f j = false then 1 else 0)) = bI (!anyB (j + 1) f) := by rw [anyB]; cases anyB j f <;> cases f j <;> rfl
/-- how many of the first k points from p on are new -/
def cntF (X Y : Nat → Int32) (p : Nat) : Nat → Nat
  | 0 => 0
  | k + 1 => cntF X Y p k + frN X Y p k
theorem cntF_le (X Y : Nat → Int32) (p k : Nat) : cntF X Y p k ≤ k := by
  induction k with
  | zero => exact Nat.le_refl _
  | succ k ih => have := frN_le X Y p k; show cntF X Y p k + frN X Y p k ≤ k + 1; omega
theorem cntF_m {X Y : Nat → Int32} {p j k : Nat} (h : j ≤ k) : cntF X Y p j ≤ cntF X Y p k := up_mono (g := cntF X Y p) (n := k) (fun i _ => Nat.le_add_right _ _) h (Nat.le_refl _)
def mFew (X Y : Nat → Int32) (p n ls : Nat) : Bool := decide (cntF X Y p n < ls)
theorem mFew_t {X Y : Nat → Int32} {p n ls : Nat} (h : cntF X Y p n < ls) : true = mFew X Y p n ls := (decide_eq_true h).symm
theorem mFew_f {X Y : Nat → Int32} {p n ls k : Nat} (hk : k < n) (h : ¬ cntF X Y p k + frN X Y p k < ls) : false = mFew X Y p n ls := (decide_eq_false (fun h9 => h (Nat.lt_of_le_of_lt (cntF_m (j := k + 1) hk) h9))).symm
set_option maxHeartbeats 4000000 in
set_option maxRecDepth 100000 in
theorem c_X10_next (l : Launch) (D : va_G) (dT : Nat → ClassId) (ah : hA) (sz : Nat) (mo : Nat) (AR : Nat → Nat) (q : Nat → Int32) (g : Nat → Nat → Int32) (hm : moA dT ah mo AR q g) (np : Nat) (X Y : Nat → Int32) (hX : moX np g X Y) (nr : Nat) (RP RN : Nat → Nat) (hRg : moR np nr g RP RN) (r9 a : Nat) (hr9 : r9 < nr) (ha0 : RP r9 ≤ a) (ha : a + 1 < RP r9 + RN r9) : hMet l yX10_next cX10_next 5 (some .int) ({ frames := 2, cells := 0, slots := 0, locals := 43 }) D dT [.ref mo, .int (nI r9), .int (nI a)] ah sz (fun r ah2 => r = some (.int (nI (nxF X Y (RP r9) (RN r9) (RN r9) (a + 1) a))) ∧ ah = ah2) 0 0 := by
  refine h_met (by decide) (Nat.le_of_ble_eq_true rfl) ?_
  intro p e s m below meth c ls R Q args hav hR hQ hB hl hsz hw
  obtain ⟨hx, hb, hml, hr, hts, hown, hlk, hin, hK⟩ := hB
  have hown : s.vm.findClass RX10 = some m.cls := hown
  have hl : lv_has ls 5 [(0, .ref mo), (1, .int (nI r9)), (2, .int (nI a))] := hl
  have hnp := hX.1
  have hnr := hRg.1
  have hrb_r9 := (hRg.2 r9 (by omega)).2.2
  refine lv_iload_n hx hb dX10_next_0 rfl (lv_at hl 2 rfl) ?_
  refine lv_iconst (v := 1) hx hb dX10_next_1 (by decide) ?_
  refine lv_iadd hx hb dX10_next_2 ?_
  refine lv_topi (fun t_1 et_1 => ?_)
  obtain rfl : t_1 = nI (a + 1) := et_1.trans (nI_c _ 1)
  refine lv_istore_n (lv' := [(3, .int (nI (a + 1))), (0, .ref mo), (1, .int (nI r9)), (2, .int (nI a))]) hx hb dX10_next_3 rfl hl (by decide) rfl (fun ls hl => ?_)
  refine lv_iconst (v := 0) hx hb dX10_next_4 (by decide) ?_
  refine lv_istore (lv' := [(4, .int 0), (3, .int (nI (a + 1))), (0, .ref mo), (1, .int (nI r9)), (2, .int (nI a))]) hx hb dX10_next_5 hl (by decide) rfl (fun ls hl => ?_)
  have LP7 : ∀ (k7 : Nat) (n : Nat) (k : Nat) (ls : Array Slot) (H7 : Heap) (L7 : List Loc), (RN r9 - n < k7) → (n ≤ RN r9) → (RP r9 ≤ k ∧ k < RP r9 + RN r9) → (nxF X Y (RP r9) (RN r9) (RN r9 - n) k a = nxF X Y (RP r9) (RN r9) (RN r9) (a + 1) a) → lv_has ls 5 [(4, .int (nI n)), (3, .int (nI k)), (2, .int (nI a)), (1, .int (nI r9)), (0, .ref mo)] → hW D ah s.heap ah H7 L7 → W p l e R s m args below meth c H7 L7 (0) (0) Q (F0 m 7 ls []) := by
    intro k7
    induction k7 with
    | zero => intro n k ls H7 L7 hk; exact absurd hk (Nat.not_lt_zero _)
    | succ k7 ih7 =>
      intro n k ls H7 L7 hk7 hn7 hk7 he7 hl hw
      refine lv_iload hx hb dX10_next_7 (lv_at hl 0 rfl) ?_
      refine lv_aload_n hx hb dX10_next_9 rfl (lv_at hl 4 rfl) ?_
      refine h_get (ci := 10) (v := .ref (AR 8)) (C := RX10) (T := TX10) (N := 26) hx hb hts kl_X10 hown hK hw hm.1 rfl 13 (by decide) (hts _ kf_X10_34) rfl rfl dX10_next_10 ?_
      refine lv_iload_n hx hb dX10_next_13 rfl (lv_at hl 3 rfl) ?_
      refine h_iald hx hb hK hw (moA_a (n := 4096) (f := g 8) hm 8 (by decide) rfl rfl) r9 rfl (by omega) (by omega) dX10_next_14 ?_
      rw [show (g 8) r9 = nI (RN r9) from (hRg.2 _ (by omega)).2.1]
      refine lv_icmp_ge (tgt := 57) hx hb dX10_next_15 (by decide) (fun c_2 => ?_) (fun c_2 => ?_)
      · skip
        have c_2 : RN r9 ≤ n := (nI_lex (by rfl) (by rfl) (by omega) (by omega)).mp c_2
        refine lv_iload_n hx hb dX10_next_57 rfl (lv_at hl 2 rfl) ?_
        rw [hQ]
        exact h_iret hx hb hr hlk hsz hw (by simp) (by simp) dX10_next_58 ⟨congrArg (fun z => some (Value.int (nI z))) ((nxF_0 (by omega)).symm.trans he7), rfl⟩
      · skip
        have c_2 : ¬ (RN r9 ≤ n) := (not_congr (nI_lex (by rfl) (by rfl) (by omega) (by omega))).mp c_2
        refine lv_iload_n hx hb dX10_next_18 rfl (lv_at hl 1 rfl) ?_
        refine lv_aload_n hx hb dX10_next_19 rfl (lv_at hl 4 rfl) ?_
        refine lv_iload_n hx hb dX10_next_20 rfl (lv_at hl 3 rfl) ?_
        refine h_callV (n := 1) (ci := 10) (b := mo) (As := [.int (nI r9)]) (rest := [.int (nI k)]) ⟨hx, hb, hml, hown, hts⟩ hK hw (c_X10_end l D dT ah H7.size mo AR q g hm np X Y hX nr RP RN hRg r9 (by omega)) ko_X10_end km_X10_129 ki_X10_end ks_X10_end kn_X10 (by decide +kernel) rfl hm.1 rfl hl.1 rfl (by simp [Value.category]) dX10_next_21 (by rw [hR]; exact ⟨rfl, rfl, Nat.le_of_ble_eq_true rfl, Nat.le_of_ble_eq_true rfl, by simp, by simp⟩) (fun r_3 ah_4 H_5 L_6 st_7 hp hw hst => ?_)
        obtain ⟨rfl, rfl⟩ := hp
        have hst : st_7 = [.int (nI (RP r9 + RN r9) - 1), .int (nI k)] := hst
        subst hst
        have J_10 : ∀ (v_9 : Int32) (ls : Array Slot), lv_has ls 5 [(4, .int (nI n)), (3, .int (nI k)), (2, .int (nI a)), (1, .int (nI r9)), (0, .ref mo)] → v_9 = (if k + 1 < RP r9 + RN r9 then nI k else nI (RP r9)) → W p l e R s m args below meth c H_5 L_6 (0 + 0) (0 + 0) Q (F0 m 37 ls [.int v_9]) := by
          intro v_9 ls hl ev_9
          have hv9 : v_9 = nI (nxW (RP r9) (RN r9) k) := ev_9.trans nxW_e
          subst hv9
          have hnw := nxW_b (p := RP r9) (m := RN r9) (k := k) (by omega) (by omega)
          refine lv_istore_n (lv' := [(3, .int (nI (nxW (RP r9) (RN r9) k))), (4, .int (nI n)), (2, .int (nI a)), (1, .int (nI r9)), (0, .ref mo)]) hx hb dX10_next_37 rfl hl (by decide) rfl (fun ls hl => ?_)
          refine lv_aload_n hx hb dX10_next_38 rfl (lv_at hl 4 rfl) ?_
          refine lv_iload_n hx hb dX10_next_39 rfl (lv_at hl 0 rfl) ?_
          refine h_callV (n := 1) (ci := 10) (b := mo) (As := [.int (nI (nxW (RP r9) (RN r9) k))]) (rest := []) ⟨hx, hb, hml, hown, hts⟩ hK hw (c_X10_isSegment l D dT ah H_5.size mo AR q g hm np X Y hX (nxW (RP r9) (RN r9) k) (by omega)) ko_X10_isSegment km_X10_132 ki_X10_isSegment ks_X10_isSegment kn_X10 (by decide +kernel) rfl hm.1 rfl hl.1 rfl (by simp [Value.category]) dX10_next_40 (by rw [hR]; exact ⟨rfl, rfl, Nat.le_of_ble_eq_true rfl, Nat.le_of_ble_eq_true rfl, by simp, by simp⟩) (fun r_11 ah_12 H_13 L_14 st_15 hp hw hst => ?_)
          obtain ⟨rfl, rfl⟩ := hp
          have hst : st_15 = [.int (bI (mSeg X Y (nxW (RP r9) (RN r9) k)))] := hst
          subst hst
          refine lv_if_eq (tgt := 48) hx hb dX10_next_43 (by decide) (fun c_16 => ?_) (fun c_16 => ?_)
          · skip
            have c_16 : mSeg X Y (nxW (RP r9) (RN r9) k) = false := bI_0.mp c_16
            refine lv_iinc (v := nI (nxW (RP r9) (RN r9) k + 1)) (lv' := [(3, .int (nI (nxW (RP r9) (RN r9) k + 1))), (4, .int (nI n)), (2, .int (nI a)), (1, .int (nI r9)), (0, .ref mo)]) hx hb dX10_next_48 hl (k := 0) rfl (nI_c _ 1) (by decide) rfl (fun ls hl => ?_)
            refine lv_iinc (v := nI (n + 1)) (lv' := [(4, .int (nI (n + 1))), (3, .int (nI (nxW (RP r9) (RN r9) k + 1))), (2, .int (nI a)), (1, .int (nI r9)), (0, .ref mo)]) hx hb dX10_next_51 hl (k := 1) rfl (nI_c _ 1) (by decide) rfl (fun ls hl => ?_)
            refine lv_goto (tgt := 7) hx hb dX10_next_54 (by decide) ?_
            refine W.widen (k := 0) (n := 0) (by omega) (by omega) ?_
            exact ih7 (n + 1) (nxW (RP r9) (RN r9) k + 1) ls _ _ (by omega) (by omega) (by omega) ((nxF_n (by omega) c_16).trans he7) (lv_sub hl [0, 1, 2, 3, 4] rfl) hw
          · skip
            have c_16 : ¬ (mSeg X Y (nxW (RP r9) (RN r9) k) = false) := (not_congr bI_0).mp c_16
            refine lv_iload_n hx hb dX10_next_46 rfl (lv_at hl 0 rfl) ?_
            rw [hQ]
            exact h_iret hx hb hr hlk hsz hw (by simp) (by simp) dX10_next_47 ⟨congrArg (fun z => some (Value.int (nI z))) ((nxF_y (by omega) c_16).symm.trans he7), rfl⟩
        refine lv_icmp_lt (tgt := 36) hx hb dX10_next_24 (by decide) (fun c_8 => ?_) (fun c_8 => ?_)
        · skip
          have c_8 : k + 1 < RP r9 + RN r9 := (nIm_lt (by omega) (by omega)).mp c_8
          refine lv_iload_n hx hb dX10_next_36 rfl (lv_at hl 1 rfl) ?_
          exact J_10 (nI k) ls (lv_sub hl [0, 1, 2, 3, 4] rfl) (by rw [if_pos c_8])
        · skip
          have c_8 : ¬ (k + 1 < RP r9 + RN r9) := (not_congr (nIm_lt (by omega) (by omega))).mp c_8
          refine lv_aload_n hx hb dX10_next_27 rfl (lv_at hl 4 rfl) ?_
          refine h_get (ci := 10) (v := .ref (AR 7)) (C := RX10) (T := TX10) (N := 26) hx hb hts kl_X10 hown hK hw hm.1 rfl 12 (by decide) (hts _ kf_X10_31) rfl rfl dX10_next_28 ?_
          refine lv_iload_n hx hb dX10_next_31 rfl (lv_at hl 3 rfl) ?_
          refine h_iald hx hb hK hw (moA_a (n := 4096) (f := g 7) hm 7 (by decide) rfl rfl) r9 rfl (by omega) (by omega) dX10_next_32 ?_
          rw [show (g 7) r9 = nI (RP r9) from (hRg.2 _ (by omega)).1]
          refine lv_goto (tgt := 37) hx hb dX10_next_33 (by decide) ?_
          exact J_10 (nI (RP r9)) ls (lv_sub hl [0, 1, 2, 3, 4] rfl) (by rw [if_neg c_8])
  exact LP7 ((RN r9 - 0) + 1) 0 (a + 1) ls _ _ (Nat.lt_succ_self _) (by omega) (by omega) rfl (lv_sub hl [0, 1, 4, 3, 2] rfl) hw

set_option maxHeartbeats 4000000 in
set_option maxRecDepth 100000 in
theorem c_X10_isOnRing (l : Launch) (D : va_G) (dT : Nat → ClassId) (ah : hA) (sz : Nat) (mo : Nat) (AR : Nat → Nat) (q : Nat → Int32) (g : Nat → Nat → Int32) (hm : moA dT ah mo AR q g) (np : Nat) (X Y : Nat → Int32) (hX : moX np g X Y) (nr : Nat) (RP RN : Nat → Nat) (hRg : moR np nr g RP RN) (x y : Int32) (r9 : Nat) (hr9 : r9 < nr) : hMet l yX10_isOnRing cX10_isOnRing 6 (some .boolean) ({ frames := 3, cells := 0, slots := 0, locals := 68 }) D dT [.ref mo, .int x, .int y, .int (nI r9)] ah sz (fun r ah2 => r = some (.int (bI (mOnR X Y RP RN x y r9))) ∧ ah = ah2) 0 0 := by
  refine h_met (by decide) (Nat.le_of_ble_eq_true rfl) ?_
  intro p e s m below meth c ls R Q args hav hR hQ hB hl hsz hw
  obtain ⟨hx, hb, hml, hr, hts, hown, hlk, hin, hK⟩ := hB
  have hown : s.vm.findClass RX10 = some m.cls := hown
  have hl : lv_has ls 6 [(0, .ref mo), (1, .int x), (2, .int y), (3, .int (nI r9))] := hl
  have hnp := hX.1
  have hnr := hRg.1
  have hrb_r9 := (hRg.2 r9 (by omega)).2.2
  refine lv_iconst (v := 0) hx hb dX10_isOnRing_0 (by decide) ?_
  refine lv_istore (lv' := [(4, .int 0), (0, .ref mo), (1, .int x), (2, .int y), (3, .int (nI r9))]) hx hb dX10_isOnRing_1 hl (by decide) rfl (fun ls hl => ?_)
  refine lv_aload_n hx hb dX10_isOnRing_3 rfl (lv_at hl 1 rfl) ?_
  refine h_get (ci := 10) (v := .ref (AR 7)) (C := RX10) (T := TX10) (N := 26) hx hb hts kl_X10 hown hK hw hm.1 rfl 12 (by decide) (hts _ kf_X10_31) rfl rfl dX10_isOnRing_4 ?_
  refine lv_iload_n hx hb dX10_isOnRing_7 rfl (lv_at hl 4 rfl) ?_
  refine h_iald hx hb hK hw (moA_a (n := 4096) (f := g 7) hm 7 (by decide) rfl rfl) r9 rfl (by omega) (by omega) dX10_isOnRing_8 ?_
  rw [show (g 7) r9 = nI (RP r9) from (hRg.2 _ (by omega)).1]
  refine lv_istore (lv' := [(5, .int (nI (RP r9))), (4, .int 0), (0, .ref mo), (1, .int x), (2, .int y), (3, .int (nI r9))]) hx hb dX10_isOnRing_9 hl (by decide) rfl (fun ls hl => ?_)
  have LP11 : ∀ (k11 : Nat) (j : Nat) (on9 : Bool) (ls : Array Slot) (H11 : Heap) (L11 : List Loc), (RN r9 - j < k11) → (j ≤ RN r9 - 1) → (on9 = anyB j (fun k9 => mSeg X Y (RP r9 + k9) && mOn X Y x y (RP r9 + k9))) → lv_has ls 6 [(5, .int (nI (RP r9 + j))), (4, .int (bI on9)), (3, .int (nI r9)), (2, .int y), (1, .int x), (0, .ref mo)] → hW D ah s.heap ah H11 L11 → W p l e R s m args below meth c H11 L11 (0) (0) Q (F0 m 11 ls []) := by
    intro k11
    induction k11 with
    | zero => intro j on9 ls H11 L11 hk; exact absurd hk (Nat.not_lt_zero _)
    | succ k11 ih11 =>
      intro j on9 ls H11 L11 hk11 hj11 ho11 hl hw
      refine lv_iload hx hb dX10_isOnRing_11 (lv_at hl 0 rfl) ?_
      refine lv_aload_n hx hb dX10_isOnRing_13 rfl (lv_at hl 5 rfl) ?_
      refine lv_iload_n hx hb dX10_isOnRing_14 rfl (lv_at hl 2 rfl) ?_
      refine h_callV (n := 1) (ci := 10) (b := mo) (As := [.int (nI r9)]) (rest := [.int (nI (RP r9 + j))]) ⟨hx, hb, hml, hown, hts⟩ hK hw (c_X10_end l D dT ah H11.size mo AR q g hm np X Y hX nr RP RN hRg r9 (by omega)) ko_X10_end km_X10_129 ki_X10_end ks_X10_end kn_X10 (by decide +kernel) rfl hm.1 rfl hl.1 rfl (by simp [Value.category]) dX10_isOnRing_15 (by rw [hR]; exact ⟨rfl, rfl, Nat.le_of_ble_eq_true rfl, Nat.le_of_ble_eq_true rfl, by simp, by simp⟩) (fun r_1 ah_2 H_3 L_4 st_5 hp hw hst => ?_)
      obtain ⟨rfl, rfl⟩ := hp
      have hst : st_5 = [.int (nI (RP r9 + RN r9) - 1), .int (nI (RP r9 + j))] := hst
      subst hst
      refine lv_icmp_ge (tgt := 59) hx hb dX10_isOnRing_18 (by decide) (fun c_6 => ?_) (fun c_6 => ?_)
      · skip
        have c_6 : RP r9 + RN r9 ≤ RP r9 + j + 1 := (nIm_le (by omega) (by omega)).mp c_6
        refine lv_iload hx hb dX10_isOnRing_59 (lv_at hl 1 rfl) ?_
        rw [hQ]
        exact h_zret hx hb hr hlk hsz hw (by simp) (by simp) dX10_isOnRing_61 (bI_01 _) ⟨congrArg (fun z => some (Value.int (bI z))) (ho11.trans (congrArg (fun z => anyB z (fun k9 => mSeg X Y (RP r9 + k9) && mOn X Y x y (RP r9 + k9))) (by omega))), rfl⟩
      · skip
        have c_6 : ¬ (RP r9 + RN r9 ≤ RP r9 + j + 1) := (not_congr (nIm_le (by omega) (by omega))).mp c_6
        refine lv_iload hx hb dX10_isOnRing_21 (lv_at hl 1 rfl) ?_
        refine lv_if_ne (tgt := 59) hx hb dX10_isOnRing_23 (by decide) (fun c_7 => ?_) (fun c_7 => ?_)
        · skip
          have c_7 : ¬ (on9 = false) := (not_congr bI_0).mp c_7
          refine lv_iload hx hb dX10_isOnRing_59 (lv_at hl 1 rfl) ?_
          rw [hQ]
          exact h_zret hx hb hr hlk hsz hw (by simp) (by simp) dX10_isOnRing_61 (bI_01 _) ⟨congrArg (fun z => some (Value.int (bI z))) (anyB_u (f := fun k9 => mSeg X Y (RP r9 + k9) && mOn X Y x y (RP r9 + k9)) (by omega) (by rw [← ho11]; exact eq_true_of_ne_false c_7) ho11), rfl⟩
        · skip
          have c_7 : on9 = false := bI_0.mp c_7
          refine lv_aload_n hx hb dX10_isOnRing_26 rfl (lv_at hl 5 rfl) ?_
          refine lv_iload hx hb dX10_isOnRing_27 (lv_at hl 0 rfl) ?_
          refine h_callV (n := 1) (ci := 10) (b := mo) (As := [.int (nI (RP r9 + j))]) (rest := []) ⟨hx, hb, hml, hown, hts⟩ hK hw (c_X10_isSegment l D dT ah H_3.size mo AR q g hm np X Y hX (RP r9 + j) (by omega)) ko_X10_isSegment km_X10_132 ki_X10_isSegment ks_X10_isSegment kn_X10 (by decide +kernel) rfl hm.1 rfl hl.1 rfl (by simp [Value.category]) dX10_isOnRing_29 (by rw [hR]; exact ⟨rfl, rfl, Nat.le_of_ble_eq_true rfl, Nat.le_of_ble_eq_true rfl, by simp, by simp⟩) (fun r_8 ah_9 H_10 L_11 st_12 hp hw hst => ?_)
          obtain ⟨rfl, rfl⟩ := hp
          have hst : st_12 = [.int (bI (mSeg X Y (RP r9 + j)))] := hst
          subst hst
          have J_23 : ∀ (v_22 : Int32) (ls : Array Slot) (H_20 : Heap) (L_21 : List Loc), lv_has ls 6 [(5, .int (nI (RP r9 + j))), (4, .int (bI on9)), (3, .int (nI r9)), (2, .int y), (1, .int x), (0, .ref mo)] → hW D ah s.heap ah H_20 L_21 → v_22 = (if mSeg X Y (RP r9 + j) = false then 0 else (if mOn X Y x y (RP r9 + j) = false then 0 else 1)) → W p l e R s m args below meth c H_20 L_21 (0) (0) Q (F0 m 51 ls [.int v_22]) := by
            intro v_22 ls H_20 L_21 hl hw ev_22
            have hv9 : v_22 = bI (mSeg X Y (RP r9 + j) && mOn X Y x y (RP r9 + j)) := ev_22.trans bI_and2
            subst hv9
            refine lv_istore (lv' := [(4, .int (bI (mSeg X Y (RP r9 + j) && mOn X Y x y (RP r9 + j)))), (5, .int (nI (RP r9 + j))), (3, .int (nI r9)), (2, .int y), (1, .int x), (0, .ref mo)]) hx hb dX10_isOnRing_51 hl (by decide) rfl (fun ls hl => ?_)
            refine lv_iinc (v := nI (RP r9 + j + 1)) (lv' := [(5, .int (nI (RP r9 + j + 1))), (4, .int (bI (mSeg X Y (RP r9 + j) && mOn X Y x y (RP r9 + j)))), (3, .int (nI r9)), (2, .int y), (1, .int x), (0, .ref mo)]) hx hb dX10_isOnRing_53 hl (k := 1) rfl (nI_c _ 1) (by decide) rfl (fun ls hl => ?_)
            refine lv_goto (tgt := 11) hx hb dX10_isOnRing_56 (by decide) ?_
            exact ih11 (j + 1) (mSeg X Y (RP r9 + j) && mOn X Y x y (RP r9 + j)) ls _ _ (by omega) (by omega) (anyB_n (f := fun k9 => mSeg X Y (RP r9 + k9) && mOn X Y x y (RP r9 + k9)) (by rw [← ho11]; exact c_7)) (lv_sub hl [0, 1, 2, 3, 4, 5] rfl) hw
          refine lv_if_eq (tgt := 50) hx hb dX10_isOnRing_32 (by decide) (fun c_13 => ?_) (fun c_13 => ?_)
          · skip
            have c_13 : mSeg X Y (RP r9 + j) = false := bI_0.mp c_13
            refine lv_iconst (v := 0) hx hb dX10_isOnRing_50 (by decide) ?_
            exact J_23 0 ls _ _ (lv_sub hl [0, 1, 2, 3, 4, 5] rfl) hw (by rw [if_pos c_13])
          · skip
            have c_13 : ¬ (mSeg X Y (RP r9 + j) = false) := (not_congr bI_0).mp c_13
            refine lv_aload_n hx hb dX10_isOnRing_35 rfl (lv_at hl 5 rfl) ?_
            refine lv_iload_n hx hb dX10_isOnRing_36 rfl (lv_at hl 4 rfl) ?_
            refine lv_iload_n hx hb dX10_isOnRing_37 rfl (lv_at hl 3 rfl) ?_
            refine lv_iload hx hb dX10_isOnRing_38 (lv_at hl 0 rfl) ?_
            refine h_callV (n := 3) (ci := 10) (b := mo) (As := [.int x, .int y, .int (nI (RP r9 + j))]) (rest := []) ⟨hx, hb, hml, hown, hts⟩ hK hw (c_X10_isOn l D dT ah H_10.size mo AR q g hm np X Y hX x y (RP r9 + j) (by omega)) ko_X10_isOn km_X10_120 ki_X10_isOn ks_X10_isOn kn_X10 (by decide +kernel) rfl hm.1 rfl hl.1 rfl (by simp [Value.category]) dX10_isOnRing_40 (by rw [hR]; exact ⟨rfl, rfl, Nat.le_of_ble_eq_true rfl, Nat.le_of_ble_eq_true rfl, by simp, by simp⟩) (fun r_14 ah_15 H_16 L_17 st_18 hp hw hst => ?_)
            obtain ⟨rfl, rfl⟩ := hp
            have hst : st_18 = [.int (bI (mOn X Y x y (RP r9 + j)))] := hst
            subst hst
            refine lv_if_eq (tgt := 50) hx hb dX10_isOnRing_43 (by decide) (fun c_19 => ?_) (fun c_19 => ?_)
            · skip
              have c_19 : mOn X Y x y (RP r9 + j) = false := bI_0.mp c_19
              refine lv_iconst (v := 0) hx hb dX10_isOnRing_50 (by decide) ?_
              exact J_23 0 ls _ _ (lv_sub hl [0, 1, 2, 3, 4, 5] rfl) hw (by rw [if_neg c_13, if_pos c_19])
            · skip
              have c_19 : ¬ (mOn X Y x y (RP r9 + j) = false) := (not_congr bI_0).mp c_19
              refine lv_iconst (v := 1) hx hb dX10_isOnRing_46 (by decide) ?_
              refine lv_goto (tgt := 51) hx hb dX10_isOnRing_47 (by decide) ?_
              exact J_23 1 ls _ _ (lv_sub hl [0, 1, 2, 3, 4, 5] rfl) hw (by rw [if_neg c_13, if_neg c_19])
  exact LP11 ((RN r9 - 0) + 1) 0 false ls _ _ (Nat.lt_succ_self _) (by omega) rfl (lv_sub hl [0, 1, 5, 4, 3, 2] rfl) hw

set_option maxHeartbeats 4000000 in
set_option maxRecDepth 100000 in
theorem c_X10_odd (l : Launch) (D : va_G) (dT : Nat → ClassId) (ah : hA) (sz : Nat) (mo : Nat) (AR : Nat → Nat) (q : Nat → Int32) (g : Nat → Nat → Int32) (hm : moA dT ah mo AR q g) (np : Nat) (X Y : Nat → Int32) (hX : moX np g X Y) (nr : Nat) (RP RN : Nat → Nat) (hRg : moR np nr g RP RN) (r9 : Nat) (x y dx dy : Int32) (hr9 : r9 < nr) : hMet l yX10_odd cX10_odd 11 (some .boolean) ({ frames := 2, cells := 0, slots := 0, locals := 45 }) D dT [.ref mo, .int (nI r9), .int x, .int y, .int dx, .int dy] ah sz (fun r ah2 => r = some (.int (bI (mOdd X Y RP RN r9 x y dx dy))) ∧ ah = ah2) 0 0 := by
  refine h_met (by decide) (Nat.le_of_ble_eq_true rfl) ?_
  intro p e s m below meth c ls R Q args hav hR hQ hB hl hsz hw
  obtain ⟨hx, hb, hml, hr, hts, hown, hlk, hin, hK⟩ := hB
  have hown : s.vm.findClass RX10 = some m.cls := hown
  have hl : lv_has ls 11 [(0, .ref mo), (1, .int (nI r9)), (2, .int x), (3, .int y), (4, .int dx), (5, .int dy)] := hl
  have hnp := hX.1
  have hnr := hRg.1
  have hrb_r9 := (hRg.2 r9 (by omega)).2.2
  refine lv_iconst (v := 0) hx hb dX10_odd_0 (by decide) ?_
  refine lv_istore (lv' := [(6, .int 0), (0, .ref mo), (1, .int (nI r9)), (2, .int x), (3, .int y), (4, .int dx), (5, .int dy)]) hx hb dX10_odd_1 hl (by decide) rfl (fun ls hl => ?_)
  refine lv_aload_n hx hb dX10_odd_3 rfl (lv_at hl 1 rfl) ?_
  refine h_get (ci := 10) (v := .ref (AR 7)) (C := RX10) (T := TX10) (N := 26) hx hb hts kl_X10 hown hK hw hm.1 rfl 12 (by decide) (hts _ kf_X10_31) rfl rfl dX10_odd_4 ?_
  refine lv_iload_n hx hb dX10_odd_7 rfl (lv_at hl 2 rfl) ?_
  refine h_iald hx hb hK hw (moA_a (n := 4096) (f := g 7) hm 7 (by decide) rfl rfl) r9 rfl (by omega) (by omega) dX10_odd_8 ?_
  rw [show (g 7) r9 = nI (RP r9) from (hRg.2 _ (by omega)).1]
  refine lv_istore (lv' := [(7, .int (nI (RP r9))), (6, .int 0), (0, .ref mo), (1, .int (nI r9)), (2, .int x), (3, .int y), (4, .int dx), (5, .int dy)]) hx hb dX10_odd_9 hl (by decide) rfl (fun ls hl => ?_)
  have LP11 : ∀ (k11 : Nat) (j : Nat) (od : Bool) (ls : Array Slot) (H11 : Heap) (L11 : List Loc), (RN r9 - j < k11) → (j ≤ RN r9 - 1) → (od = parB j (fun k9 => mHit X Y x y dx dy (RP r9 + k9))) → lv_has ls 11 [(7, .int (nI (RP r9 + j))), (6, .int (bI od)), (5, .int dy), (4, .int dx), (3, .int y), (2, .int x), (1, .int (nI r9)), (0, .ref mo)] → hW D ah s.heap ah H11 L11 → W p l e R s m args below meth c H11 L11 (0) (0) Q (F0 m 11 ls []) := by
    intro k11
    induction k11 with
    | zero => intro j od ls H11 L11 hk; exact absurd hk (Nat.not_lt_zero _)
    | succ k11 ih11 =>
      intro j od ls H11 L11 hk11 hj11 ho11 hl hw
      refine lv_iload hx hb dX10_odd_11 (lv_at hl 0 rfl) ?_
      refine lv_aload_n hx hb dX10_odd_13 rfl (lv_at hl 7 rfl) ?_
      refine lv_iload_n hx hb dX10_odd_14 rfl (lv_at hl 6 rfl) ?_
      refine h_callV (n := 1) (ci := 10) (b := mo) (As := [.int (nI r9)]) (rest := [.int (nI (RP r9 + j))]) ⟨hx, hb, hml, hown, hts⟩ hK hw (c_X10_end l D dT ah H11.size mo AR q g hm np X Y hX nr RP RN hRg r9 (by omega)) ko_X10_end km_X10_129 ki_X10_end ks_X10_end kn_X10 (by decide +kernel) rfl hm.1 rfl hl.1 rfl (by simp [Value.category]) dX10_odd_15 (by rw [hR]; exact ⟨rfl, rfl, Nat.le_of_ble_eq_true rfl, Nat.le_of_ble_eq_true rfl, by simp, by simp⟩) (fun r_1 ah_2 H_3 L_4 st_5 hp hw hst => ?_)
      obtain ⟨rfl, rfl⟩ := hp
      have hst : st_5 = [.int (nI (RP r9 + RN r9) - 1), .int (nI (RP r9 + j))] := hst
      subst hst
      refine lv_icmp_ge (tgt := 204) hx hb dX10_odd_18 (by decide) (fun c_6 => ?_) (fun c_6 => ?_)
      · skip
        have c_6 : RP r9 + RN r9 ≤ RP r9 + j + 1 := (nIm_le (by omega) (by omega)).mp c_6
        refine lv_iload hx hb dX10_odd_204 (lv_at hl 1 rfl) ?_
        rw [hQ]
        exact h_zret hx hb hr hlk hsz hw (by simp) (by simp) dX10_odd_206 (bI_01 _) ⟨congrArg (fun z => some (Value.int (bI z))) (ho11.trans (congrArg (fun z => parB z (fun k9 => mHit X Y x y dx dy (RP r9 + k9))) (by omega))), rfl⟩
      · skip
        have c_6 : ¬ (RP r9 + RN r9 ≤ RP r9 + j + 1) := (not_congr (nIm_le (by omega) (by omega))).mp c_6
        refine lv_aload_n hx hb dX10_odd_21 rfl (lv_at hl 7 rfl) ?_
        refine h_get (ci := 10) (v := .ref (AR 10)) (C := RX10) (T := TX10) (N := 26) hx hb hts kl_X10 hown hK hw hm.1 rfl 15 (by decide) (hts _ kf_X10_40) rfl rfl dX10_odd_22 ?_
        refine lv_iload hx hb dX10_odd_25 (lv_at hl 0 rfl) ?_
        refine h_iald hx hb hK hw (moA_a (n := 4096) (f := g 10) hm 10 (by decide) rfl rfl) (RP r9 + j) rfl (by omega) (by omega) dX10_odd_27 ?_
        rw [show (g 10) (RP r9 + j) = Y (RP r9 + j) from (hX.2 _ (by omega)).2]
        refine lv_iload_n hx hb dX10_odd_28 rfl (lv_at hl 4 rfl) ?_
        have J_11 : ∀ (v_10 : Int32) (ls : Array Slot), lv_has ls 11 [(7, .int (nI (RP r9 + j))), (6, .int (bI od)), (5, .int dy), (4, .int dx), (3, .int y), (2, .int x), (1, .int (nI r9)), (0, .ref mo)] → v_10 = (if y < Y (RP r9 + j) then 1 else (if Y (RP r9 + j) = y then (if 0 ≤ dy then 0 else 1) else 0)) → W p l e R s m args below meth c H_3 L_4 (0) (0) Q (F0 m 53 ls [.int v_10]) := by
          intro v_10 ls hl ev_10
          have hv9 : v_10 = bI (mAb (Y (RP r9 + j)) y dy) := ev_10.trans mAb_e
          subst hv9
          refine lv_istore (lv' := [(8, .int (bI (mAb (Y (RP r9 + j)) y dy))), (7, .int (nI (RP r9 + j))), (6, .int (bI od)), (5, .int dy), (4, .int dx), (3, .int y), (2, .int x), (1, .int (nI r9)), (0, .ref mo)]) hx hb dX10_odd_53 hl (by decide) rfl (fun ls hl => ?_)
          refine lv_aload_n hx hb dX10_odd_55 rfl (lv_at hl 8 rfl) ?_
          refine h_get (ci := 10) (v := .ref (AR 10)) (C := RX10) (T := TX10) (N := 26) hx hb hts kl_X10 hown hK hw hm.1 rfl 15 (by decide) (hts _ kf_X10_40) rfl rfl dX10_odd_56 ?_
          refine lv_iload hx hb dX10_odd_59 (lv_at hl 1 rfl) ?_
          refine lv_iconst (v := 1) hx hb dX10_odd_61 (by decide) ?_
          refine lv_iadd hx hb dX10_odd_62 ?_
          refine lv_topi (fun t_12 et_12 => ?_)
          obtain rfl : t_12 = nI (RP r9 + j + 1) := et_12.trans (nI_c _ 1)
          refine h_iald hx hb hK hw (moA_a (n := 4096) (f := g 10) hm 10 (by decide) rfl rfl) (RP r9 + j + 1) rfl (by omega) (by omega) dX10_odd_63 ?_
          rw [show (g 10) (RP r9 + j + 1) = Y (RP r9 + j + 1) from (hX.2 _ (by omega)).2]
          refine lv_iload_n hx hb dX10_odd_64 rfl (lv_at hl 5 rfl) ?_
          have J_18 : ∀ (v_17 : Int32) (ls : Array Slot), lv_has ls 11 [(8, .int (bI (mAb (Y (RP r9 + j)) y dy))), (7, .int (nI (RP r9 + j))), (6, .int (bI od)), (5, .int dy), (4, .int dx), (3, .int y), (2, .int x), (1, .int (nI r9)), (0, .ref mo)] → v_17 = (if y < Y (RP r9 + j + 1) then 1 else (if Y (RP r9 + j + 1) = y then (if 0 ≤ dy then 0 else 1) else 0)) → W p l e R s m args below meth c H_3 L_4 (0) (0) Q (F0 m 91 ls [.int v_17]) := by
            intro v_17 ls hl ev_17
            have hv9 : v_17 = bI (mAb (Y (RP r9 + j + 1)) y dy) := ev_17.trans mAb_e
            subst hv9
            refine lv_istore (lv' := [(9, .int (bI (mAb (Y (RP r9 + j + 1)) y dy))), (8, .int (bI (mAb (Y (RP r9 + j)) y dy))), (7, .int (nI (RP r9 + j))), (6, .int (bI od)), (5, .int dy), (4, .int dx), (3, .int y), (2, .int x), (1, .int (nI r9)), (0, .ref mo)]) hx hb dX10_odd_91 hl (by decide) rfl (fun ls hl => ?_)
            refine lv_iload hx hb dX10_odd_93 (lv_at hl 1 rfl) ?_
            refine lv_iload hx hb dX10_odd_95 (lv_at hl 0 rfl) ?_
            refine lv_icmp_eq (tgt := 198) hx hb dX10_odd_97 (by decide) (fun c_19 => ?_) (fun c_19 => ?_)
            · skip
              refine lv_iinc (v := nI (RP r9 + j + 1)) (lv' := [(7, .int (nI (RP r9 + j + 1))), (9, .int (bI (mAb (Y (RP r9 + j + 1)) y dy))), (8, .int (bI (mAb (Y (RP r9 + j)) y dy))), (6, .int (bI od)), (5, .int dy), (4, .int dx), (3, .int y), (2, .int x), (1, .int (nI r9)), (0, .ref mo)]) hx hb dX10_odd_198 hl (k := 2) rfl (nI_c _ 1) (by decide) rfl (fun ls hl => ?_)
              refine lv_goto (tgt := 11) hx hb dX10_odd_201 (by decide) ?_
              exact ih11 (j + 1) od ls _ _ (by omega) (by omega) (parB_f0 (f := fun k9 => mHit X Y x y dx dy (RP r9 + k9)) ho11 (mHit_e c_19)) (lv_sub hl [0, 3, 4, 5, 6, 7, 8, 9] rfl) hw
            · skip
              refine lv_aload_n hx hb dX10_odd_100 rfl (lv_at hl 9 rfl) ?_
              refine lv_iload hx hb dX10_odd_101 (lv_at hl 2 rfl) ?_
              refine lv_iload hx hb dX10_odd_103 (lv_at hl 2 rfl) ?_
              refine lv_iconst (v := 1) hx hb dX10_odd_105 (by decide) ?_
              refine lv_iadd hx hb dX10_odd_106 ?_
              refine lv_topi (fun t_21 et_21 => ?_)
              obtain rfl : t_21 = nI (RP r9 + j + 1) := et_21.trans (nI_c _ 1)
              refine lv_iload_n hx hb dX10_odd_107 rfl (lv_at hl 7 rfl) ?_
              refine lv_iload_n hx hb dX10_odd_108 rfl (lv_at hl 6 rfl) ?_
              refine h_callV (n := 4) (ci := 10) (b := mo) (As := [.int (nI (RP r9 + j)), .int (nI (RP r9 + j + 1)), .int x, .int y]) (rest := []) ⟨hx, hb, hml, hown, hts⟩ hK hw (c_X10_side l D dT ah H_3.size mo AR q g hm np X Y hX (RP r9 + j) (RP r9 + j + 1) x y (by omega) (by omega)) ko_X10_side km_X10_96 ki_X10_side ks_X10_side kn_X10 (by decide +kernel) rfl hm.1 rfl hl.1 rfl (by simp [Value.category]) dX10_odd_109 (by rw [hR]; exact ⟨rfl, rfl, Nat.le_of_ble_eq_true rfl, Nat.le_of_ble_eq_true rfl, by simp, by simp⟩) (fun r_22 ah_23 H_24 L_25 st_26 hp hw hst => ?_)
              obtain ⟨rfl, rfl⟩ := hp
              have hst : st_26 = [.int (mSide X Y (RP r9 + j) (RP r9 + j + 1) x y)] := hst
              subst hst
              refine lv_istore (lv' := [(10, .int (mSide X Y (RP r9 + j) (RP r9 + j + 1) x y)), (9, .int (bI (mAb (Y (RP r9 + j + 1)) y dy))), (8, .int (bI (mAb (Y (RP r9 + j)) y dy))), (7, .int (nI (RP r9 + j))), (6, .int (bI od)), (5, .int dy), (4, .int dx), (3, .int y), (2, .int x), (1, .int (nI r9)), (0, .ref mo)]) hx hb dX10_odd_112 hl (by decide) rfl (fun ls hl => ?_)
              refine lv_iload hx hb dX10_odd_114 (lv_at hl 0 rfl) ?_
              have J_38 : ∀ (v_37 : Int32) (ls : Array Slot) (H_35 : Heap) (L_36 : List Loc), lv_has ls 11 [(10, .int v_37), (9, .int (bI (mAb (Y (RP r9 + j + 1)) y dy))), (8, .int (bI (mAb (Y (RP r9 + j)) y dy))), (7, .int (nI (RP r9 + j))), (6, .int (bI od)), (5, .int dy), (4, .int dx), (3, .int y), (2, .int x), (1, .int (nI r9)), (0, .ref mo)] → hW D ah s.heap ah H_35 L_36 → v_37 = (if mSide X Y (RP r9 + j) (RP r9 + j + 1) x y = 0 then sgn ((((X (RP r9 + j + 1)).toInt64 - (X (RP r9 + j)).toInt64) * (dy).toInt64) - (((Y (RP r9 + j + 1)).toInt64 - (Y (RP r9 + j)).toInt64) * (dx).toInt64)) else mSide X Y (RP r9 + j) (RP r9 + j + 1) x y) → W p l e R s m args below meth c H_35 L_36 (0) (0) Q (F0 m 171 ls []) := by
                intro v_37 ls H_35 L_36 hl hw ev_37
                refine lv_iload hx hb dX10_odd_171 (lv_at hl 0 rfl) ?_
                have J_41 : ∀ (v_40 : Int32) (ls : Array Slot), lv_has ls 11 [(10, .int v_37), (9, .int (bI (mAb (Y (RP r9 + j + 1)) y dy))), (8, .int (bI (mAb (Y (RP r9 + j)) y dy))), (7, .int (nI (RP r9 + j))), (6, .int (bI od)), (5, .int dy), (4, .int dx), (3, .int y), (2, .int x), (1, .int (nI r9)), (0, .ref mo)] → v_40 = (if v_37 ≤ 0 then 0 else 1) → W p l e R s m args below meth c H_35 L_36 (0) (0) Q (F0 m 181 ls [.int v_40]) := by
                  intro v_40 ls hl ev_40
                  refine lv_iload hx hb dX10_odd_181 (lv_at hl 1 rfl) ?_
                  refine lv_icmp_ne (tgt := 198) hx hb dX10_odd_183 (by decide) (fun c_42 => ?_) (fun c_42 => ?_)
                  · skip
                    refine lv_iinc (v := nI (RP r9 + j + 1)) (lv' := [(7, .int (nI (RP r9 + j + 1))), (10, .int v_37), (9, .int (bI (mAb (Y (RP r9 + j + 1)) y dy))), (8, .int (bI (mAb (Y (RP r9 + j)) y dy))), (6, .int (bI od)), (5, .int dy), (4, .int dx), (3, .int y), (2, .int x), (1, .int (nI r9)), (0, .ref mo)]) hx hb dX10_odd_198 hl (k := 3) rfl (nI_c _ 1) (by decide) rfl (fun ls hl => ?_)
                    refine lv_goto (tgt := 11) hx hb dX10_odd_201 (by decide) ?_
                    exact ih11 (j + 1) od ls _ _ (by omega) (by omega) (parB_f0 (f := fun k9 => mHit X Y x y dx dy (RP r9 + k9)) ho11 (mHit_n c_19 ev_37 ev_40 c_42)) (lv_sub hl [0, 4, 5, 6, 7, 8, 9, 10] rfl) hw
                  · skip
                    refine lv_iload hx hb dX10_odd_186 (lv_at hl 4 rfl) ?_
                    have J_46 : ∀ (v_45 : Int32) (ls : Array Slot), lv_has ls 11 [(10, .int v_37), (9, .int (bI (mAb (Y (RP r9 + j + 1)) y dy))), (8, .int (bI (mAb (Y (RP r9 + j)) y dy))), (7, .int (nI (RP r9 + j))), (6, .int (bI od)), (5, .int dy), (4, .int dx), (3, .int y), (2, .int x), (1, .int (nI r9)), (0, .ref mo)] → v_45 = (if od = false then 1 else 0) → W p l e R s m args below meth c H_35 L_36 (0) (0) Q (F0 m 196 ls [.int v_45]) := by
                      intro v_45 ls hl ev_45
                      have hv9 : v_45 = bI (!od) := ev_45.trans bI_not
                      subst hv9
                      refine lv_istore (lv' := [(6, .int (bI (!od))), (10, .int v_37), (9, .int (bI (mAb (Y (RP r9 + j + 1)) y dy))), (8, .int (bI (mAb (Y (RP r9 + j)) y dy))), (7, .int (nI (RP r9 + j))), (5, .int dy), (4, .int dx), (3, .int y), (2, .int x), (1, .int (nI r9)), (0, .ref mo)]) hx hb dX10_odd_196 hl (by decide) rfl (fun ls hl => ?_)
                      refine lv_iinc (v := nI (RP r9 + j + 1)) (lv' := [(7, .int (nI (RP r9 + j + 1))), (6, .int (bI (!od))), (10, .int v_37), (9, .int (bI (mAb (Y (RP r9 + j + 1)) y dy))), (8, .int (bI (mAb (Y (RP r9 + j)) y dy))), (5, .int dy), (4, .int dx), (3, .int y), (2, .int x), (1, .int (nI r9)), (0, .ref mo)]) hx hb dX10_odd_198 hl (k := 4) rfl (nI_c _ 1) (by decide) rfl (fun ls hl => ?_)
                      refine lv_goto (tgt := 11) hx hb dX10_odd_201 (by decide) ?_
                      exact ih11 (j + 1) (!od) ls _ _ (by omega) (by omega) (parB_t0 (f := fun k9 => mHit X Y x y dx dy (RP r9 + k9)) ho11 (mHit_y c_19 ev_37 ev_40 c_42)) (lv_sub hl [0, 1, 5, 6, 7, 8, 9, 10] rfl) hw
                    refine lv_if_ne (tgt := 195) hx hb dX10_odd_188 (by decide) (fun c_44 => ?_) (fun c_44 => ?_)
                    · skip
                      have c_44 : ¬ (od = false) := (not_congr bI_0).mp c_44
                      refine lv_iconst (v := 0) hx hb dX10_odd_195 (by decide) ?_
                      exact J_46 0 ls (lv_sub hl [0, 1, 2, 3, 4, 5, 6, 7, 8, 9, 10] rfl) (by rw [if_neg c_44])
                    · skip
                      have c_44 : od = false := bI_0.mp c_44
                      refine lv_iconst (v := 1) hx hb dX10_odd_191 (by decide) ?_
                      refine lv_goto (tgt := 196) hx hb dX10_odd_192 (by decide) ?_
                      exact J_46 1 ls (lv_sub hl [0, 1, 2, 3, 4, 5, 6, 7, 8, 9, 10] rfl) (by rw [if_pos c_44])
                refine lv_if_le (tgt := 180) hx hb dX10_odd_173 (by decide) (fun c_39 => ?_) (fun c_39 => ?_)
                · skip
                  refine lv_iconst (v := 0) hx hb dX10_odd_180 (by decide) ?_
                  exact J_41 0 ls (lv_sub hl [0, 1, 2, 3, 4, 5, 6, 7, 8, 9, 10] rfl) (by rw [if_pos c_39])
                · skip
                  refine lv_iconst (v := 1) hx hb dX10_odd_176 (by decide) ?_
                  refine lv_goto (tgt := 181) hx hb dX10_odd_177 (by decide) ?_
                  exact J_41 1 ls (lv_sub hl [0, 1, 2, 3, 4, 5, 6, 7, 8, 9, 10] rfl) (by rw [if_neg c_39])
              refine lv_if_ne (tgt := 171) hx hb dX10_odd_116 (by decide) (fun c_27 => ?_) (fun c_27 => ?_)
              · skip
                exact J_38 (mSide X Y (RP r9 + j) (RP r9 + j + 1) x y) ls _ _ (lv_sub hl [0, 1, 2, 3, 4, 5, 6, 7, 8, 9, 10] rfl) hw (by rw [if_neg c_27])
              · skip
                refine lv_aload_n hx hb dX10_odd_119 rfl (lv_at hl 10 rfl) ?_
                refine h_get (ci := 10) (v := .ref (AR 9)) (C := RX10) (T := TX10) (N := 26) hx hb hts kl_X10 hown hK hw hm.1 rfl 14 (by decide) (hts _ kf_X10_37) rfl rfl dX10_odd_120 ?_
                refine lv_iload hx hb dX10_odd_123 (lv_at hl 3 rfl) ?_
                refine lv_iconst (v := 1) hx hb dX10_odd_125 (by decide) ?_
                refine lv_iadd hx hb dX10_odd_126 ?_
                refine lv_topi (fun t_28 et_28 => ?_)
                obtain rfl : t_28 = nI (RP r9 + j + 1) := et_28.trans (nI_c _ 1)
                refine h_iald hx hb hK hw (moA_a (n := 4096) (f := g 9) hm 9 (by decide) rfl rfl) (RP r9 + j + 1) rfl (by omega) (by omega) dX10_odd_127 ?_
                rw [show (g 9) (RP r9 + j + 1) = X (RP r9 + j + 1) from (hX.2 _ (by omega)).1]
                refine lv_i2l (v := (X (RP r9 + j + 1)).toInt64) hx hb dX10_odd_128 rfl ?_
                refine lv_aload_n hx hb dX10_odd_129 rfl (lv_at hl 10 rfl) ?_
                refine h_get (ci := 10) (v := .ref (AR 9)) (C := RX10) (T := TX10) (N := 26) hx hb hts kl_X10 hown hK hw hm.1 rfl 14 (by decide) (hts _ kf_X10_37) rfl rfl dX10_odd_130 ?_
                refine lv_iload hx hb dX10_odd_133 (lv_at hl 3 rfl) ?_
                refine h_iald hx hb hK hw (moA_a (n := 4096) (f := g 9) hm 9 (by decide) rfl rfl) (RP r9 + j) rfl (by omega) (by omega) dX10_odd_135 ?_
                rw [show (g 9) (RP r9 + j) = X (RP r9 + j) from (hX.2 _ (by omega)).1]
                refine lv_i2l (v := (X (RP r9 + j)).toInt64) hx hb dX10_odd_136 rfl ?_
                refine lv_lsub hx hb dX10_odd_137 ?_
                refine lv_iload hx hb dX10_odd_138 (lv_at hl 5 rfl) ?_
                refine lv_i2l (v := (dy).toInt64) hx hb dX10_odd_140 rfl ?_
                refine lv_lmul hx hb dX10_odd_141 ?_
                refine lv_aload_n hx hb dX10_odd_142 rfl (lv_at hl 10 rfl) ?_
                refine h_get (ci := 10) (v := .ref (AR 10)) (C := RX10) (T := TX10) (N := 26) hx hb hts kl_X10 hown hK hw hm.1 rfl 15 (by decide) (hts _ kf_X10_40) rfl rfl dX10_odd_143 ?_
                refine lv_iload hx hb dX10_odd_146 (lv_at hl 3 rfl) ?_
                refine lv_iconst (v := 1) hx hb dX10_odd_148 (by decide) ?_
                refine lv_iadd hx hb dX10_odd_149 ?_
                refine lv_topi (fun t_29 et_29 => ?_)
                obtain rfl : t_29 = nI (RP r9 + j + 1) := et_29.trans (nI_c _ 1)
                refine h_iald hx hb hK hw (moA_a (n := 4096) (f := g 10) hm 10 (by decide) rfl rfl) (RP r9 + j + 1) rfl (by omega) (by omega) dX10_odd_150 ?_
                rw [show (g 10) (RP r9 + j + 1) = Y (RP r9 + j + 1) from (hX.2 _ (by omega)).2]
                refine lv_i2l (v := (Y (RP r9 + j + 1)).toInt64) hx hb dX10_odd_151 rfl ?_
                refine lv_aload_n hx hb dX10_odd_152 rfl (lv_at hl 10 rfl) ?_
                refine h_get (ci := 10) (v := .ref (AR 10)) (C := RX10) (T := TX10) (N := 26) hx hb hts kl_X10 hown hK hw hm.1 rfl 15 (by decide) (hts _ kf_X10_40) rfl rfl dX10_odd_153 ?_
                refine lv_iload hx hb dX10_odd_156 (lv_at hl 3 rfl) ?_
                refine h_iald hx hb hK hw (moA_a (n := 4096) (f := g 10) hm 10 (by decide) rfl rfl) (RP r9 + j) rfl (by omega) (by omega) dX10_odd_158 ?_
                rw [show (g 10) (RP r9 + j) = Y (RP r9 + j) from (hX.2 _ (by omega)).2]
                refine lv_i2l (v := (Y (RP r9 + j)).toInt64) hx hb dX10_odd_159 rfl ?_
                refine lv_lsub hx hb dX10_odd_160 ?_
                refine lv_iload hx hb dX10_odd_161 (lv_at hl 6 rfl) ?_
                refine lv_i2l (v := (dx).toInt64) hx hb dX10_odd_163 rfl ?_
                refine lv_lmul hx hb dX10_odd_164 ?_
                refine lv_lsub hx hb dX10_odd_165 ?_
                refine h_callS (n := 1) (As := [.long ((((X (RP r9 + j + 1)).toInt64 - (X (RP r9 + j)).toInt64) * (dy).toInt64) - (((Y (RP r9 + j + 1)).toInt64 - (Y (RP r9 + j)).toInt64) * (dx).toInt64))]) (rest := []) ⟨hx, hb, hml, hown, hts⟩ hK hw (c_X10_sign l D dT ah H_24.size ((((X (RP r9 + j + 1)).toInt64 - (X (RP r9 + j)).toInt64) * (dy).toInt64) - (((Y (RP r9 + j + 1)).toInt64 - (Y (RP r9 + j)).toInt64) * (dx).toInt64))) ko_X10_sign km_X10_92 kt_X10_sign kn_X10 (by decide +kernel) rfl hl.1 rfl (by simp [Value.category]) dX10_odd_166 (by rw [hR]; exact ⟨rfl, rfl, Nat.le_of_ble_eq_true rfl, Nat.le_of_ble_eq_true rfl, by simp, by simp⟩) (fun r_30 ah_31 H_32 L_33 st_34 hp hw hst => ?_)
                obtain ⟨rfl, rfl⟩ := hp
                have hst : st_34 = [.int (sgn ((((X (RP r9 + j + 1)).toInt64 - (X (RP r9 + j)).toInt64) * (dy).toInt64) - (((Y (RP r9 + j + 1)).toInt64 - (Y (RP r9 + j)).toInt64) * (dx).toInt64)))] := hst
                subst hst
                refine lv_istore (lv' := [(10, .int (sgn ((((X (RP r9 + j + 1)).toInt64 - (X (RP r9 + j)).toInt64) * (dy).toInt64) - (((Y (RP r9 + j + 1)).toInt64 - (Y (RP r9 + j)).toInt64) * (dx).toInt64)))), (9, .int (bI (mAb (Y (RP r9 + j + 1)) y dy))), (8, .int (bI (mAb (Y (RP r9 + j)) y dy))), (7, .int (nI (RP r9 + j))), (6, .int (bI od)), (5, .int dy), (4, .int dx), (3, .int y), (2, .int x), (1, .int (nI r9)), (0, .ref mo)]) hx hb dX10_odd_169 hl (by decide) rfl (fun ls hl => ?_)
                exact J_38 (sgn ((((X (RP r9 + j + 1)).toInt64 - (X (RP r9 + j)).toInt64) * (dy).toInt64) - (((Y (RP r9 + j + 1)).toInt64 - (Y (RP r9 + j)).toInt64) * (dx).toInt64))) ls _ _ (lv_sub hl [0, 1, 2, 3, 4, 5, 6, 7, 8, 9, 10] rfl) hw (by rw [if_pos c_27])
          refine lv_icmp_gt (tgt := 86) hx hb dX10_odd_65 (by decide) (fun c_13 => ?_) (fun c_13 => ?_)
          · skip
            refine lv_iconst (v := 1) hx hb dX10_odd_86 (by decide) ?_
            refine lv_goto (tgt := 91) hx hb dX10_odd_87 (by decide) ?_
            exact J_18 1 ls (lv_sub hl [0, 1, 2, 3, 4, 5, 6, 7, 8] rfl) (by rw [if_pos c_13])
          · skip
            refine lv_aload_n hx hb dX10_odd_68 rfl (lv_at hl 8 rfl) ?_
            refine h_get (ci := 10) (v := .ref (AR 10)) (C := RX10) (T := TX10) (N := 26) hx hb hts kl_X10 hown hK hw hm.1 rfl 15 (by decide) (hts _ kf_X10_40) rfl rfl dX10_odd_69 ?_
            refine lv_iload hx hb dX10_odd_72 (lv_at hl 1 rfl) ?_
            refine lv_iconst (v := 1) hx hb dX10_odd_74 (by decide) ?_
            refine lv_iadd hx hb dX10_odd_75 ?_
            refine lv_topi (fun t_14 et_14 => ?_)
            obtain rfl : t_14 = nI (RP r9 + j + 1) := et_14.trans (nI_c _ 1)
            refine h_iald hx hb hK hw (moA_a (n := 4096) (f := g 10) hm 10 (by decide) rfl rfl) (RP r9 + j + 1) rfl (by omega) (by omega) dX10_odd_76 ?_
            rw [show (g 10) (RP r9 + j + 1) = Y (RP r9 + j + 1) from (hX.2 _ (by omega)).2]
            refine lv_iload_n hx hb dX10_odd_77 rfl (lv_at hl 5 rfl) ?_
            refine lv_icmp_ne (tgt := 90) hx hb dX10_odd_78 (by decide) (fun c_15 => ?_) (fun c_15 => ?_)
            · skip
              refine lv_iconst (v := 0) hx hb dX10_odd_90 (by decide) ?_
              exact J_18 0 ls (lv_sub hl [0, 1, 2, 3, 4, 5, 6, 7, 8] rfl) (by rw [if_neg c_13, if_neg c_15])
            · skip
              refine lv_iload hx hb dX10_odd_81 (lv_at hl 3 rfl) ?_
              refine lv_if_ge (tgt := 90) hx hb dX10_odd_83 (by decide) (fun c_16 => ?_) (fun c_16 => ?_)
              · skip
                refine lv_iconst (v := 0) hx hb dX10_odd_90 (by decide) ?_
                exact J_18 0 ls (lv_sub hl [0, 1, 2, 3, 4, 5, 6, 7, 8] rfl) (by rw [if_neg c_13, if_pos c_15, if_pos c_16])
              · skip
                refine lv_iconst (v := 1) hx hb dX10_odd_86 (by decide) ?_
                refine lv_goto (tgt := 91) hx hb dX10_odd_87 (by decide) ?_
                exact J_18 1 ls (lv_sub hl [0, 1, 2, 3, 4, 5, 6, 7, 8] rfl) (by rw [if_neg c_13, if_pos c_15, if_neg c_16])
        refine lv_icmp_gt (tgt := 48) hx hb dX10_odd_29 (by decide) (fun c_7 => ?_) (fun c_7 => ?_)
        · skip
          refine lv_iconst (v := 1) hx hb dX10_odd_48 (by decide) ?_
          refine lv_goto (tgt := 53) hx hb dX10_odd_49 (by decide) ?_
          exact J_11 1 ls (lv_sub hl [0, 1, 2, 3, 4, 5, 6, 7] rfl) (by rw [if_pos c_7])
        · skip
          refine lv_aload_n hx hb dX10_odd_32 rfl (lv_at hl 7 rfl) ?_
          refine h_get (ci := 10) (v := .ref (AR 10)) (C := RX10) (T := TX10) (N := 26) hx hb hts kl_X10 hown hK hw hm.1 rfl 15 (by decide) (hts _ kf_X10_40) rfl rfl dX10_odd_33 ?_
          refine lv_iload hx hb dX10_odd_36 (lv_at hl 0 rfl) ?_
          refine h_iald hx hb hK hw (moA_a (n := 4096) (f := g 10) hm 10 (by decide) rfl rfl) (RP r9 + j) rfl (by omega) (by omega) dX10_odd_38 ?_
          rw [show (g 10) (RP r9 + j) = Y (RP r9 + j) from (hX.2 _ (by omega)).2]
          refine lv_iload_n hx hb dX10_odd_39 rfl (lv_at hl 4 rfl) ?_
          refine lv_icmp_ne (tgt := 52) hx hb dX10_odd_40 (by decide) (fun c_8 => ?_) (fun c_8 => ?_)
          · skip
            refine lv_iconst (v := 0) hx hb dX10_odd_52 (by decide) ?_
            exact J_11 0 ls (lv_sub hl [0, 1, 2, 3, 4, 5, 6, 7] rfl) (by rw [if_neg c_7, if_neg c_8])
          · skip
            refine lv_iload hx hb dX10_odd_43 (lv_at hl 2 rfl) ?_
            refine lv_if_ge (tgt := 52) hx hb dX10_odd_45 (by decide) (fun c_9 => ?_) (fun c_9 => ?_)
            · skip
              refine lv_iconst (v := 0) hx hb dX10_odd_52 (by decide) ?_
              exact J_11 0 ls (lv_sub hl [0, 1, 2, 3, 4, 5, 6, 7] rfl) (by rw [if_neg c_7, if_pos c_8, if_pos c_9])
            · skip
              refine lv_iconst (v := 1) hx hb dX10_odd_48 (by decide) ?_
              refine lv_goto (tgt := 53) hx hb dX10_odd_49 (by decide) ?_
              exact J_11 1 ls (lv_sub hl [0, 1, 2, 3, 4, 5, 6, 7] rfl) (by rw [if_neg c_7, if_pos c_8, if_neg c_9])
  exact LP11 ((RN r9 - 0) + 1) 0 false ls _ _ (Nat.lt_succ_self _) (by omega) rfl (lv_sub hl [0, 1, 7, 6, 5, 4, 3, 2] rfl) hw

set_option maxHeartbeats 4000000 in
set_option maxRecDepth 100000 in
theorem c_X10_liesIn (l : Launch) (D : va_G) (dT : Nat → ClassId) (ah : hA) (sz : Nat) (mo : Nat) (AR : Nat → Nat) (q : Nat → Int32) (g : Nat → Nat → Int32) (hm : moA dT ah mo AR q g) (np : Nat) (X Y : Nat → Int32) (hX : moX np g X Y) (nr : Nat) (RP RN : Nat → Nat) (hRg : moR np nr g RP RN) (r9 q9 : Nat) (hr9 : r9 < nr) (hq9 : q9 < nr) (hsg : ∃ k, k < RN r9 - 1 ∧ mSeg X Y (RP r9 + k) = true) : hMet l yX10_liesIn cX10_liesIn 5 (some .boolean) ({ frames := 4, cells := 0, slots := 0, locals := 93 }) D dT [.ref mo, .int (nI r9), .int (nI q9)] ah sz (fun r ah2 => r = some (.int (bI (mIn X Y RP RN r9 q9))) ∧ ah = ah2) 0 0 := by
  refine h_met (by decide) (Nat.le_of_ble_eq_true rfl) ?_
  intro p e s m below meth c ls R Q args hav hR hQ hB hl hsz hw
  obtain ⟨hx, hb, hml, hr, hts, hown, hlk, hin, hK⟩ := hB
  have hown : s.vm.findClass RX10 = some m.cls := hown
  have hl : lv_has ls 5 [(0, .ref mo), (1, .int (nI r9)), (2, .int (nI q9))] := hl
  have hnp := hX.1
  have hnr := hRg.1
  have hrb_r9 := (hRg.2 r9 (by omega)).2.2
  refine lv_iconst (v := (-1)) hx hb dX10_liesIn_0 (by decide) ?_
  refine lv_istore_n (lv' := [(3, .int (-1)), (0, .ref mo), (1, .int (nI r9)), (2, .int (nI q9))]) hx hb dX10_liesIn_1 rfl hl (by decide) rfl (fun ls hl => ?_)
  refine lv_aload_n hx hb dX10_liesIn_2 rfl (lv_at hl 1 rfl) ?_
  refine h_get (ci := 10) (v := .ref (AR 7)) (C := RX10) (T := TX10) (N := 26) hx hb hts kl_X10 hown hK hw hm.1 rfl 12 (by decide) (hts _ kf_X10_31) rfl rfl dX10_liesIn_3 ?_
  refine lv_iload_n hx hb dX10_liesIn_6 rfl (lv_at hl 2 rfl) ?_
  refine h_iald hx hb hK hw (moA_a (n := 4096) (f := g 7) hm 7 (by decide) rfl rfl) r9 rfl (by omega) (by omega) dX10_liesIn_7 ?_
  rw [show (g 7) r9 = nI (RP r9) from (hRg.2 _ (by omega)).1]
  refine lv_istore (lv' := [(4, .int (nI (RP r9))), (3, .int (-1)), (0, .ref mo), (1, .int (nI r9)), (2, .int (nI q9))]) hx hb dX10_liesIn_8 hl (by decide) rfl (fun ls hl => ?_)
  have LP10 : ∀ (k10 : Nat) (j : Nat) (fst9 : Int32) (ls : Array Slot) (H10 : Heap) (L10 : List Loc), (RN r9 - j < k10) → (j ≤ RN r9 - 1) → (∀ i, i < j → (mSeg X Y (RP r9 + i) && !mOnR X Y RP RN (X (RP r9 + i)) (Y (RP r9 + i)) q9) = false) → (liI X Y (RP r9) j fst9) → lv_has ls 5 [(4, .int (nI (RP r9 + j))), (3, .int fst9), (2, .int (nI q9)), (1, .int (nI r9)), (0, .ref mo)] → hW D ah s.heap ah H10 L10 → W p l e R s m args below meth c H10 L10 (0) (0) Q (F0 m 10 ls []) := by
    intro k10
    induction k10 with
    | zero => intro j fst9 ls H10 L10 hk; exact absurd hk (Nat.not_lt_zero _)
    | succ k10 ih10 =>
      intro j fst9 ls H10 L10 hk10 hj10 hb10 hf10 hl hw
      refine lv_iload hx hb dX10_liesIn_10 (lv_at hl 0 rfl) ?_
      refine lv_aload_n hx hb dX10_liesIn_12 rfl (lv_at hl 4 rfl) ?_
      refine lv_iload_n hx hb dX10_liesIn_13 rfl (lv_at hl 3 rfl) ?_
      refine h_callV (n := 1) (ci := 10) (b := mo) (As := [.int (nI r9)]) (rest := [.int (nI (RP r9 + j))]) ⟨hx, hb, hml, hown, hts⟩ hK hw (c_X10_end l D dT ah H10.size mo AR q g hm np X Y hX nr RP RN hRg r9 (by omega)) ko_X10_end km_X10_129 ki_X10_end ks_X10_end kn_X10 (by decide +kernel) rfl hm.1 rfl hl.1 rfl (by simp [Value.category]) dX10_liesIn_14 (by rw [hR]; exact ⟨rfl, rfl, Nat.le_of_ble_eq_true rfl, Nat.le_of_ble_eq_true rfl, by simp, by simp⟩) (fun r_1 ah_2 H_3 L_4 st_5 hp hw hst => ?_)
      obtain ⟨rfl, rfl⟩ := hp
      have hst : st_5 = [.int (nI (RP r9 + RN r9) - 1), .int (nI (RP r9 + j))] := hst
      subst hst
      refine lv_icmp_ge (tgt := 90) hx hb dX10_liesIn_17 (by decide) (fun c_6 => ?_) (fun c_6 => ?_)
      · skip
        have c_6 : RP r9 + RN r9 ≤ RP r9 + j + 1 := (nIm_le (by omega) (by omega)).mp c_6
        obtain ⟨k9, hk9, rfl, hsk, hso⟩ := liI_e hf10 (n := RN r9 - 1) (by omega) hsg
        refine lv_aload_n hx hb dX10_liesIn_90 rfl (lv_at hl 4 rfl) ?_
        refine lv_iload_n hx hb dX10_liesIn_91 rfl (lv_at hl 2 rfl) ?_
        refine lv_aload_n hx hb dX10_liesIn_92 rfl (lv_at hl 4 rfl) ?_
        refine h_get (ci := 10) (v := .ref (AR 9)) (C := RX10) (T := TX10) (N := 26) hx hb hts kl_X10 hown hK hw hm.1 rfl 14 (by decide) (hts _ kf_X10_37) rfl rfl dX10_liesIn_93 ?_
        refine lv_iload_n hx hb dX10_liesIn_96 rfl (lv_at hl 1 rfl) ?_
        refine h_iald hx hb hK hw (moA_a (n := 4096) (f := g 9) hm 9 (by decide) rfl rfl) (RP r9 + k9) rfl (by omega) (by omega) dX10_liesIn_97 ?_
        rw [show (g 9) (RP r9 + k9) = X (RP r9 + k9) from (hX.2 _ (by omega)).1]
        refine lv_aload_n hx hb dX10_liesIn_98 rfl (lv_at hl 4 rfl) ?_
        refine h_get (ci := 10) (v := .ref (AR 10)) (C := RX10) (T := TX10) (N := 26) hx hb hts kl_X10 hown hK hw hm.1 rfl 15 (by decide) (hts _ kf_X10_40) rfl rfl dX10_liesIn_99 ?_
        refine lv_iload_n hx hb dX10_liesIn_102 rfl (lv_at hl 1 rfl) ?_
        refine h_iald hx hb hK hw (moA_a (n := 4096) (f := g 10) hm 10 (by decide) rfl rfl) (RP r9 + k9) rfl (by omega) (by omega) dX10_liesIn_103 ?_
        rw [show (g 10) (RP r9 + k9) = Y (RP r9 + k9) from (hX.2 _ (by omega)).2]
        refine lv_aload_n hx hb dX10_liesIn_104 rfl (lv_at hl 4 rfl) ?_
        refine h_get (ci := 10) (v := .ref (AR 9)) (C := RX10) (T := TX10) (N := 26) hx hb hts kl_X10 hown hK hw hm.1 rfl 14 (by decide) (hts _ kf_X10_37) rfl rfl dX10_liesIn_105 ?_
        refine lv_iload_n hx hb dX10_liesIn_108 rfl (lv_at hl 1 rfl) ?_
        refine lv_iconst (v := 1) hx hb dX10_liesIn_109 (by decide) ?_
        refine lv_iadd hx hb dX10_liesIn_110 ?_
        refine lv_topi (fun t_7 et_7 => ?_)
        obtain rfl : t_7 = nI (RP r9 + k9 + 1) := et_7.trans (nI_c _ 1)
        refine h_iald hx hb hK hw (moA_a (n := 4096) (f := g 9) hm 9 (by decide) rfl rfl) (RP r9 + k9 + 1) rfl (by omega) (by omega) dX10_liesIn_111 ?_
        rw [show (g 9) (RP r9 + k9 + 1) = X (RP r9 + k9 + 1) from (hX.2 _ (by omega)).1]
        refine lv_aload_n hx hb dX10_liesIn_112 rfl (lv_at hl 4 rfl) ?_
        refine h_get (ci := 10) (v := .ref (AR 9)) (C := RX10) (T := TX10) (N := 26) hx hb hts kl_X10 hown hK hw hm.1 rfl 14 (by decide) (hts _ kf_X10_37) rfl rfl dX10_liesIn_113 ?_
        refine lv_iload_n hx hb dX10_liesIn_116 rfl (lv_at hl 1 rfl) ?_
        refine h_iald hx hb hK hw (moA_a (n := 4096) (f := g 9) hm 9 (by decide) rfl rfl) (RP r9 + k9) rfl (by omega) (by omega) dX10_liesIn_117 ?_
        rw [show (g 9) (RP r9 + k9) = X (RP r9 + k9) from (hX.2 _ (by omega)).1]
        refine lv_isub hx hb dX10_liesIn_118 ?_
        refine lv_aload_n hx hb dX10_liesIn_119 rfl (lv_at hl 4 rfl) ?_
        refine h_get (ci := 10) (v := .ref (AR 10)) (C := RX10) (T := TX10) (N := 26) hx hb hts kl_X10 hown hK hw hm.1 rfl 15 (by decide) (hts _ kf_X10_40) rfl rfl dX10_liesIn_120 ?_
        refine lv_iload_n hx hb dX10_liesIn_123 rfl (lv_at hl 1 rfl) ?_
        refine lv_iconst (v := 1) hx hb dX10_liesIn_124 (by decide) ?_
        refine lv_iadd hx hb dX10_liesIn_125 ?_
        refine lv_topi (fun t_8 et_8 => ?_)
        obtain rfl : t_8 = nI (RP r9 + k9 + 1) := et_8.trans (nI_c _ 1)
        refine h_iald hx hb hK hw (moA_a (n := 4096) (f := g 10) hm 10 (by decide) rfl rfl) (RP r9 + k9 + 1) rfl (by omega) (by omega) dX10_liesIn_126 ?_
        rw [show (g 10) (RP r9 + k9 + 1) = Y (RP r9 + k9 + 1) from (hX.2 _ (by omega)).2]
        refine lv_aload_n hx hb dX10_liesIn_127 rfl (lv_at hl 4 rfl) ?_
        refine h_get (ci := 10) (v := .ref (AR 10)) (C := RX10) (T := TX10) (N := 26) hx hb hts kl_X10 hown hK hw hm.1 rfl 15 (by decide) (hts _ kf_X10_40) rfl rfl dX10_liesIn_128 ?_
        refine lv_iload_n hx hb dX10_liesIn_131 rfl (lv_at hl 1 rfl) ?_
        refine h_iald hx hb hK hw (moA_a (n := 4096) (f := g 10) hm 10 (by decide) rfl rfl) (RP r9 + k9) rfl (by omega) (by omega) dX10_liesIn_132 ?_
        rw [show (g 10) (RP r9 + k9) = Y (RP r9 + k9) from (hX.2 _ (by omega)).2]
        refine lv_isub hx hb dX10_liesIn_133 ?_
        refine h_callV (n := 5) (ci := 10) (b := mo) (As := [.int (nI q9), .int (X (RP r9 + k9)), .int (Y (RP r9 + k9)), .int (X (RP r9 + k9 + 1) - X (RP r9 + k9)), .int (Y (RP r9 + k9 + 1) - Y (RP r9 + k9))]) (rest := []) ⟨hx, hb, hml, hown, hts⟩ hK hw (c_X10_odd l D dT ah H_3.size mo AR q g hm np X Y hX nr RP RN hRg q9 (X (RP r9 + k9)) (Y (RP r9 + k9)) (X (RP r9 + k9 + 1) - X (RP r9 + k9)) (Y (RP r9 + k9 + 1) - Y (RP r9 + k9)) (by omega)) ko_X10_odd km_X10_138 ki_X10_odd ks_X10_odd kn_X10 (by decide +kernel) rfl hm.1 rfl hl.1 rfl (by simp [Value.category]) dX10_liesIn_134 (by rw [hR]; exact ⟨rfl, rfl, Nat.le_of_ble_eq_true rfl, Nat.le_of_ble_eq_true rfl, by simp, by simp⟩) (fun r_9 ah_10 H_11 L_12 st_13 hp hw hst => ?_)
        obtain ⟨rfl, rfl⟩ := hp
        have hst : st_13 = [.int (bI (mOdd X Y RP RN q9 (X (RP r9 + k9)) (Y (RP r9 + k9)) (X (RP r9 + k9 + 1) - X (RP r9 + k9)) (Y (RP r9 + k9 + 1) - Y (RP r9 + k9))))] := hst
        subst hst
        rw [hQ]
        exact h_zret hx hb hr hlk hsz hw (by simp) (by simp) dX10_liesIn_137 (bI_01 _) ⟨congrArg (fun z => some (Value.int (bI z))) (mIn_f (k := k9) (fun i hi => hb10 i (by omega)) (by omega) hsk hso).symm, rfl⟩
      · skip
        have c_6 : ¬ (RP r9 + RN r9 ≤ RP r9 + j + 1) := (not_congr (nIm_le (by omega) (by omega))).mp c_6
        refine lv_aload_n hx hb dX10_liesIn_20 rfl (lv_at hl 4 rfl) ?_
        refine lv_iload hx hb dX10_liesIn_21 (lv_at hl 0 rfl) ?_
        refine h_callV (n := 1) (ci := 10) (b := mo) (As := [.int (nI (RP r9 + j))]) (rest := []) ⟨hx, hb, hml, hown, hts⟩ hK hw (c_X10_isSegment l D dT ah H_3.size mo AR q g hm np X Y hX (RP r9 + j) (by omega)) ko_X10_isSegment km_X10_132 ki_X10_isSegment ks_X10_isSegment kn_X10 (by decide +kernel) rfl hm.1 rfl hl.1 rfl (by simp [Value.category]) dX10_liesIn_23 (by rw [hR]; exact ⟨rfl, rfl, Nat.le_of_ble_eq_true rfl, Nat.le_of_ble_eq_true rfl, by simp, by simp⟩) (fun r_14 ah_15 H_16 L_17 st_18 hp hw hst => ?_)
        obtain ⟨rfl, rfl⟩ := hp
        have hst : st_18 = [.int (bI (mSeg X Y (RP r9 + j)))] := hst
        subst hst
        refine lv_if_eq (tgt := 84) hx hb dX10_liesIn_26 (by decide) (fun c_19 => ?_) (fun c_19 => ?_)
        · skip
          have c_19 : mSeg X Y (RP r9 + j) = false := bI_0.mp c_19
          refine lv_iinc (v := nI (RP r9 + j + 1)) (lv' := [(4, .int (nI (RP r9 + j + 1))), (3, .int fst9), (2, .int (nI q9)), (1, .int (nI r9)), (0, .ref mo)]) hx hb dX10_liesIn_84 hl (k := 0) rfl (nI_c _ 1) (by decide) rfl (fun ls hl => ?_)
          refine lv_goto (tgt := 10) hx hb dX10_liesIn_87 (by decide) ?_
          exact ih10 (j + 1) fst9 ls _ _ (by omega) (by omega) (lt_p hb10 (by rw [c_19]; rfl)) (liI_f hf10 c_19) (lv_sub hl [0, 1, 2, 3, 4] rfl) hw
        · skip
          have c_19 : ¬ (mSeg X Y (RP r9 + j) = false) := (not_congr bI_0).mp c_19
          refine lv_aload_n hx hb dX10_liesIn_29 rfl (lv_at hl 4 rfl) ?_
          refine lv_aload_n hx hb dX10_liesIn_30 rfl (lv_at hl 4 rfl) ?_
          refine h_get (ci := 10) (v := .ref (AR 9)) (C := RX10) (T := TX10) (N := 26) hx hb hts kl_X10 hown hK hw hm.1 rfl 14 (by decide) (hts _ kf_X10_37) rfl rfl dX10_liesIn_31 ?_
          refine lv_iload hx hb dX10_liesIn_34 (lv_at hl 0 rfl) ?_
          refine h_iald hx hb hK hw (moA_a (n := 4096) (f := g 9) hm 9 (by decide) rfl rfl) (RP r9 + j) rfl (by omega) (by omega) dX10_liesIn_36 ?_
          rw [show (g 9) (RP r9 + j) = X (RP r9 + j) from (hX.2 _ (by omega)).1]
          refine lv_aload_n hx hb dX10_liesIn_37 rfl (lv_at hl 4 rfl) ?_
          refine h_get (ci := 10) (v := .ref (AR 10)) (C := RX10) (T := TX10) (N := 26) hx hb hts kl_X10 hown hK hw hm.1 rfl 15 (by decide) (hts _ kf_X10_40) rfl rfl dX10_liesIn_38 ?_
          refine lv_iload hx hb dX10_liesIn_41 (lv_at hl 0 rfl) ?_
          refine h_iald hx hb hK hw (moA_a (n := 4096) (f := g 10) hm 10 (by decide) rfl rfl) (RP r9 + j) rfl (by omega) (by omega) dX10_liesIn_43 ?_
          rw [show (g 10) (RP r9 + j) = Y (RP r9 + j) from (hX.2 _ (by omega)).2]
          refine lv_iload_n hx hb dX10_liesIn_44 rfl (lv_at hl 2 rfl) ?_
          refine h_callV (n := 3) (ci := 10) (b := mo) (As := [.int (X (RP r9 + j)), .int (Y (RP r9 + j)), .int (nI q9)]) (rest := []) ⟨hx, hb, hml, hown, hts⟩ hK hw (c_X10_isOnRing l D dT ah H_16.size mo AR q g hm np X Y hX nr RP RN hRg (X (RP r9 + j)) (Y (RP r9 + j)) q9 (by omega)) ko_X10_isOnRing km_X10_135 ki_X10_isOnRing ks_X10_isOnRing kn_X10 (by decide +kernel) rfl hm.1 rfl hl.1 rfl (by simp [Value.category]) dX10_liesIn_45 (by rw [hR]; exact ⟨rfl, rfl, Nat.le_of_ble_eq_true rfl, Nat.le_of_ble_eq_true rfl, by simp, by simp⟩) (fun r_21 ah_22 H_23 L_24 st_25 hp hw hst => ?_)
          obtain ⟨rfl, rfl⟩ := hp
          have hst : st_25 = [.int (bI (mOnR X Y RP RN (X (RP r9 + j)) (Y (RP r9 + j)) q9))] := hst
          subst hst
          refine lv_if_ne (tgt := 73) hx hb dX10_liesIn_48 (by decide) (fun c_26 => ?_) (fun c_26 => ?_)
          · skip
            have c_26 : ¬ (mOnR X Y RP RN (X (RP r9 + j)) (Y (RP r9 + j)) q9 = false) := (not_congr bI_0).mp c_26
            refine lv_iload_n hx hb dX10_liesIn_73 rfl (lv_at hl 1 rfl) ?_
            have J_29 : ∀ (v_28 : Int32) (ls : Array Slot), lv_has ls 5 [(4, .int (nI (RP r9 + j))), (3, .int fst9), (2, .int (nI q9)), (1, .int (nI r9)), (0, .ref mo)] → v_28 = (if 0 ≤ fst9 then fst9 else nI (RP r9 + j)) → W p l e R s m args below meth c H_23 L_24 (0) (0) Q (F0 m 83 ls [.int v_28]) := by
              intro v_28 ls hl ev_28
              refine lv_istore_n (lv' := [(3, .int v_28), (4, .int (nI (RP r9 + j))), (2, .int (nI q9)), (1, .int (nI r9)), (0, .ref mo)]) hx hb dX10_liesIn_83 rfl hl (by decide) rfl (fun ls hl => ?_)
              refine lv_iinc (v := nI (RP r9 + j + 1)) (lv' := [(4, .int (nI (RP r9 + j + 1))), (3, .int v_28), (2, .int (nI q9)), (1, .int (nI r9)), (0, .ref mo)]) hx hb dX10_liesIn_84 hl (k := 1) rfl (nI_c _ 1) (by decide) rfl (fun ls hl => ?_)
              refine lv_goto (tgt := 10) hx hb dX10_liesIn_87 (by decide) ?_
              exact ih10 (j + 1) v_28 ls _ _ (by omega) (by omega) (lt_p hb10 (by rw [eq_true_of_ne_false c_26]; simp)) (liI_t hf10 (by omega) (by omega) c_19 ev_28) (lv_sub hl [0, 1, 2, 3, 4] rfl) hw
            refine lv_if_ge (tgt := 82) hx hb dX10_liesIn_74 (by decide) (fun c_27 => ?_) (fun c_27 => ?_)
            · skip
              refine lv_iload_n hx hb dX10_liesIn_82 rfl (lv_at hl 1 rfl) ?_
              exact J_29 fst9 ls (lv_sub hl [0, 1, 2, 3, 4] rfl) (by rw [if_pos c_27])
            · skip
              refine lv_iload hx hb dX10_liesIn_77 (lv_at hl 0 rfl) ?_
              refine lv_goto (tgt := 83) hx hb dX10_liesIn_79 (by decide) ?_
              exact J_29 (nI (RP r9 + j)) ls (lv_sub hl [0, 1, 2, 3, 4] rfl) (by rw [if_neg c_27])
          · skip
            have c_26 : mOnR X Y RP RN (X (RP r9 + j)) (Y (RP r9 + j)) q9 = false := bI_0.mp c_26
            refine lv_aload_n hx hb dX10_liesIn_51 rfl (lv_at hl 4 rfl) ?_
            refine lv_iload_n hx hb dX10_liesIn_52 rfl (lv_at hl 2 rfl) ?_
            refine lv_aload_n hx hb dX10_liesIn_53 rfl (lv_at hl 4 rfl) ?_
            refine h_get (ci := 10) (v := .ref (AR 9)) (C := RX10) (T := TX10) (N := 26) hx hb hts kl_X10 hown hK hw hm.1 rfl 14 (by decide) (hts _ kf_X10_37) rfl rfl dX10_liesIn_54 ?_
            refine lv_iload hx hb dX10_liesIn_57 (lv_at hl 0 rfl) ?_
            refine h_iald hx hb hK hw (moA_a (n := 4096) (f := g 9) hm 9 (by decide) rfl rfl) (RP r9 + j) rfl (by omega) (by omega) dX10_liesIn_59 ?_
            rw [show (g 9) (RP r9 + j) = X (RP r9 + j) from (hX.2 _ (by omega)).1]
            refine lv_aload_n hx hb dX10_liesIn_60 rfl (lv_at hl 4 rfl) ?_
            refine h_get (ci := 10) (v := .ref (AR 10)) (C := RX10) (T := TX10) (N := 26) hx hb hts kl_X10 hown hK hw hm.1 rfl 15 (by decide) (hts _ kf_X10_40) rfl rfl dX10_liesIn_61 ?_
            refine lv_iload hx hb dX10_liesIn_64 (lv_at hl 0 rfl) ?_
            refine h_iald hx hb hK hw (moA_a (n := 4096) (f := g 10) hm 10 (by decide) rfl rfl) (RP r9 + j) rfl (by omega) (by omega) dX10_liesIn_66 ?_
            rw [show (g 10) (RP r9 + j) = Y (RP r9 + j) from (hX.2 _ (by omega)).2]
            refine lv_iconst (v := 0) hx hb dX10_liesIn_67 (by decide) ?_
            refine lv_iconst (v := 0) hx hb dX10_liesIn_68 (by decide) ?_
            refine h_callV (n := 5) (ci := 10) (b := mo) (As := [.int (nI q9), .int (X (RP r9 + j)), .int (Y (RP r9 + j)), .int 0, .int 0]) (rest := []) ⟨hx, hb, hml, hown, hts⟩ hK hw (c_X10_odd l D dT ah H_23.size mo AR q g hm np X Y hX nr RP RN hRg q9 (X (RP r9 + j)) (Y (RP r9 + j)) 0 0 (by omega)) ko_X10_odd km_X10_138 ki_X10_odd ks_X10_odd kn_X10 (by decide +kernel) rfl hm.1 rfl hl.1 rfl (by simp [Value.category]) dX10_liesIn_69 (by rw [hR]; exact ⟨rfl, rfl, Nat.le_of_ble_eq_true rfl, Nat.le_of_ble_eq_true rfl, by simp, by simp⟩) (fun r_31 ah_32 H_33 L_34 st_35 hp hw hst => ?_)
            obtain ⟨rfl, rfl⟩ := hp
            have hst : st_35 = [.int (bI (mOdd X Y RP RN q9 (X (RP r9 + j)) (Y (RP r9 + j)) 0 0))] := hst
            subst hst
            rw [hQ]
            exact h_zret hx hb hr hlk hsz hw (by simp) (by simp) dX10_liesIn_72 (bI_01 _) ⟨congrArg (fun z => some (Value.int (bI z))) (mIn_s (k := j) (by omega) c_19 c_26 hb10).symm, rfl⟩
  exact LP10 ((RN r9 - 0) + 1) 0 (-1) ls _ _ (Nat.lt_succ_self _) (by omega) (fun i hi => absurd hi (Nat.not_lt_zero _)) (Or.inl ⟨rfl, fun i hi => absurd hi (Nat.not_lt_zero _)⟩) (lv_sub hl [0, 1, 4, 3, 2] rfl) hw

set_option maxHeartbeats 4000000 in
set_option maxRecDepth 100000 in
theorem c_X10_isFew (l : Launch) (D : va_G) (dT : Nat → ClassId) (ah : hA) (sz : Nat) (mo : Nat) (AR : Nat → Nat) (q : Nat → Int32) (g : Nat → Nat → Int32) (hm : moA dT ah mo AR q g) (np : Nat) (X Y : Nat → Int32) (hX : moX np g X Y) (nr : Nat) (RP RN : Nat → Nat) (hRg : moR np nr g RP RN) (fr n9 ls9 : Nat) (hfr : fr + n9 ≤ np) (hls : 0 < ls9) (hl9 : ls9 ≤ 100) : hMet l yX10_isFew cX10_isFew 8 (some .boolean) ({ frames := 1, cells := 0, slots := 0, locals := 22 }) D dT [.ref mo, .int (nI fr), .int (nI n9), .int (nI ls9)] ah sz (fun r ah2 => r = some (.int (bI (mFew X Y fr n9 ls9))) ∧ ah = ah2) 0 0 := by
  refine h_met (by decide) (Nat.le_of_ble_eq_true rfl) ?_
  intro p e s m below meth c ls R Q args hav hR hQ hB hl hsz hw
  obtain ⟨hx, hb, hml, hr, hts, hown, hlk, hin, hK⟩ := hB
  have hown : s.vm.findClass RX10 = some m.cls := hown
  have hl : lv_has ls 8 [(0, .ref mo), (1, .int (nI fr)), (2, .int (nI n9)), (3, .int (nI ls9))] := hl
  have hnp := hX.1
  have hnr := hRg.1
  refine lv_iconst (v := 0) hx hb dX10_isFew_0 (by decide) ?_
  refine lv_istore (lv' := [(4, .int 0), (0, .ref mo), (1, .int (nI fr)), (2, .int (nI n9)), (3, .int (nI ls9))]) hx hb dX10_isFew_1 hl (by decide) rfl (fun ls hl => ?_)
  refine lv_iconst (v := 0) hx hb dX10_isFew_3 (by decide) ?_
  refine lv_istore (lv' := [(5, .int 0), (4, .int 0), (0, .ref mo), (1, .int (nI fr)), (2, .int (nI n9)), (3, .int (nI ls9))]) hx hb dX10_isFew_4 hl (by decide) rfl (fun ls hl => ?_)
  have LP6 : ∀ (k6 : Nat) (k : Nat) (ls : Array Slot) (H6 : Heap) (L6 : List Loc), (n9 - k < k6) → (k ≤ n9) → (cntF X Y fr k < ls9) → lv_has ls 8 [(5, .int (nI k)), (4, .int (nI (cntF X Y fr k))), (3, .int (nI ls9)), (2, .int (nI n9)), (1, .int (nI fr)), (0, .ref mo)] → hW D ah s.heap ah H6 L6 → W p l e R s m args below meth c H6 L6 (0) (0) Q (F0 m 6 ls []) := by
    intro k6
    induction k6 with
    | zero => intro k ls H6 L6 hk; exact absurd hk (Nat.not_lt_zero _)
    | succ k6 ih6 =>
      intro k ls H6 L6 hk6 hk6 hc6 hl hw
      have hcf := cntF_le X Y fr k
      have hfn := frN_le X Y fr k
      refine lv_iload hx hb dX10_isFew_6 (lv_at hl 0 rfl) ?_
      refine lv_iload_n hx hb dX10_isFew_8 rfl (lv_at hl 3 rfl) ?_
      refine lv_icmp_ge (tgt := 87) hx hb dX10_isFew_9 (by decide) (fun c_1 => ?_) (fun c_1 => ?_)
      · skip
        have c_1 : n9 ≤ k := (nI_lex (by rfl) (by rfl) (by omega) (by omega)).mp c_1
        refine lv_iconst (v := 1) hx hb dX10_isFew_87 (by decide) ?_
        rw [hQ]
        exact h_zret hx hb hr hlk hsz hw (by simp) (by simp) dX10_isFew_88 (by decide) ⟨congrArg (fun z => some (Value.int (bI z))) (a₁ := true) (mFew_t (by rw [show n9 = k by omega]; exact hc6)), rfl⟩
      · skip
        have c_1 : ¬ (n9 ≤ k) := (not_congr (nI_lex (by rfl) (by rfl) (by omega) (by omega))).mp c_1
        refine lv_iconst (v := 1) hx hb dX10_isFew_12 (by decide) ?_
        refine lv_istore (lv' := [(6, .int 1), (5, .int (nI k)), (4, .int (nI (cntF X Y fr k))), (3, .int (nI ls9)), (2, .int (nI n9)), (1, .int (nI fr)), (0, .ref mo)]) hx hb dX10_isFew_13 hl (by decide) rfl (fun ls hl => ?_)
        refine lv_iconst (v := 0) hx hb dX10_isFew_15 (by decide) ?_
        refine lv_istore (lv' := [(7, .int 0), (6, .int 1), (5, .int (nI k)), (4, .int (nI (cntF X Y fr k))), (3, .int (nI ls9)), (2, .int (nI n9)), (1, .int (nI fr)), (0, .ref mo)]) hx hb dX10_isFew_16 hl (by decide) rfl (fun ls hl => ?_)
        have LP18 : ∀ (k18 : Nat) (j : Nat) (ls : Array Slot) (H18 : Heap) (L18 : List Loc), (k - j < k18) → (j ≤ k) → lv_has ls 8 [(7, .int (nI j)), (6, .int (bI (!anyB j (fun i9 => smP X Y (fr + i9) (fr + k))))), (5, .int (nI k)), (4, .int (nI (cntF X Y fr k))), (3, .int (nI ls9)), (2, .int (nI n9)), (1, .int (nI fr)), (0, .ref mo)] → hW D ah s.heap ah H18 L18 → W p l e R s m args below meth c H18 L18 (0) (0) Q (F0 m 18 ls []) := by
          intro k18
          induction k18 with
          | zero => intro j ls H18 L18 hk; exact absurd hk (Nat.not_lt_zero _)
          | succ k18 ih18 =>
            intro j ls H18 L18 hk18 hj18 hl hw
            refine lv_iload hx hb dX10_isFew_18 (lv_at hl 0 rfl) ?_
            refine lv_iload hx hb dX10_isFew_20 (lv_at hl 2 rfl) ?_
            refine lv_icmp_ge (tgt := 58) hx hb dX10_isFew_22 (by decide) (fun c_2 => ?_) (fun c_2 => ?_)
            · skip
              have c_2 : k ≤ j := (nI_lex (by rfl) (by rfl) (by omega) (by omega)).mp c_2
              refine lv_iload hx hb dX10_isFew_58 (lv_at hl 3 rfl) ?_
              refine lv_iload hx hb dX10_isFew_60 (lv_at hl 1 rfl) ?_
              have J_5 : ∀ (v_4 : Int32) (ls : Array Slot), lv_has ls 8 [(7, .int (nI j)), (6, .int (bI (!anyB j (fun i9 => smP X Y (fr + i9) (fr + k))))), (5, .int (nI k)), (4, .int (nI (cntF X Y fr k))), (3, .int (nI ls9)), (2, .int (nI n9)), (1, .int (nI fr)), (0, .ref mo)] → v_4 = (if (!anyB j (fun i9 => smP X Y (fr + i9) (fr + k))) = false then 0 else 1) → W p l e R s m args below meth c H18 L18 (0) (0) Q (F0 m 70 ls [.int v_4, .int (nI (cntF X Y fr k))]) := by
                intro v_4 ls hl ev_4
                have hv9 : v_4 = nI (frN X Y fr k) := ev_4.trans (frN_e (show j = k by omega))
                subst hv9
                refine lv_iadd hx hb dX10_isFew_70 ?_
                refine lv_topi (fun t_6 et_6 => ?_)
                obtain rfl : t_6 = nI (cntF X Y fr k + frN X Y fr k) := et_6.trans (nI_add _ _)
                refine lv_istore (lv' := [(4, .int (nI (cntF X Y fr k + frN X Y fr k))), (7, .int (nI j)), (6, .int (bI (!anyB j (fun i9 => smP X Y (fr + i9) (fr + k))))), (5, .int (nI k)), (3, .int (nI ls9)), (2, .int (nI n9)), (1, .int (nI fr)), (0, .ref mo)]) hx hb dX10_isFew_71 hl (by decide) rfl (fun ls hl => ?_)
                refine lv_iload hx hb dX10_isFew_73 (lv_at hl 0 rfl) ?_
                refine lv_iload_n hx hb dX10_isFew_75 rfl (lv_at hl 4 rfl) ?_
                refine lv_icmp_lt (tgt := 81) hx hb dX10_isFew_76 (by decide) (fun c_7 => ?_) (fun c_7 => ?_)
                · skip
                  have c_7 : cntF X Y fr k + frN X Y fr k < ls9 := (nI_ltx (by rfl) (by rfl) (by omega) (by omega)).mp c_7
                  refine lv_iinc (v := nI (k + 1)) (lv' := [(5, .int (nI (k + 1))), (4, .int (nI (cntF X Y fr k + frN X Y fr k))), (7, .int (nI j)), (6, .int (bI (!anyB j (fun i9 => smP X Y (fr + i9) (fr + k))))), (3, .int (nI ls9)), (2, .int (nI n9)), (1, .int (nI fr)), (0, .ref mo)]) hx hb dX10_isFew_81 hl (k := 3) rfl (nI_c _ 1) (by decide) rfl (fun ls hl => ?_)
                  refine lv_goto (tgt := 6) hx hb dX10_isFew_84 (by decide) ?_
                  exact ih6 (k + 1) ls _ _ (by omega) (by omega) c_7 (lv_sub hl [0, 1, 4, 5, 6, 7] rfl) hw
                · skip
                  have c_7 : ¬ (cntF X Y fr k + frN X Y fr k < ls9) := (not_congr (nI_ltx (by rfl) (by rfl) (by omega) (by omega))).mp c_7
                  refine lv_iconst (v := 0) hx hb dX10_isFew_79 (by decide) ?_
                  rw [hQ]
                  exact h_zret hx hb hr hlk hsz hw (by simp) (by simp) dX10_isFew_80 (by decide) ⟨congrArg (fun z => some (Value.int (bI z))) (a₁ := false) (mFew_f (k := k) (by omega) c_7), rfl⟩
              refine lv_if_eq (tgt := 69) hx hb dX10_isFew_62 (by decide) (fun c_3 => ?_) (fun c_3 => ?_)
              · skip
                have c_3 : (!anyB j (fun i9 => smP X Y (fr + i9) (fr + k))) = false := bI_0.mp c_3
                refine lv_iconst (v := 0) hx hb dX10_isFew_69 (by decide) ?_
                exact J_5 0 ls (lv_sub hl [0, 1, 2, 3, 4, 5, 6, 7] rfl) (by rw [if_pos c_3])
              · skip
                have c_3 : ¬ ((!anyB j (fun i9 => smP X Y (fr + i9) (fr + k))) = false) := (not_congr bI_0).mp c_3
                refine lv_iconst (v := 1) hx hb dX10_isFew_65 (by decide) ?_
                refine lv_goto (tgt := 70) hx hb dX10_isFew_66 (by decide) ?_
                exact J_5 1 ls (lv_sub hl [0, 1, 2, 3, 4, 5, 6, 7] rfl) (by rw [if_neg c_3])
            · skip
              have c_2 : ¬ (k ≤ j) := (not_congr (nI_lex (by rfl) (by rfl) (by omega) (by omega))).mp c_2
              refine lv_iload hx hb dX10_isFew_25 (lv_at hl 1 rfl) ?_
              have J_21 : ∀ (v_20 : Int32) (ls : Array Slot) (H_18 : Heap) (L_19 : List Loc), lv_has ls 8 [(7, .int (nI j)), (6, .int (bI (!anyB j (fun i9 => smP X Y (fr + i9) (fr + k))))), (5, .int (nI k)), (4, .int (nI (cntF X Y fr k))), (3, .int (nI ls9)), (2, .int (nI n9)), (1, .int (nI fr)), (0, .ref mo)] → hW D ah s.heap ah H_18 L_19 → v_20 = (if (!anyB j (fun i9 => smP X Y (fr + i9) (fr + k))) = false then 0 else (if smP X Y (fr + j) (fr + k) = false then 1 else 0)) → W p l e R s m args below meth c H_18 L_19 (0) (0) Q (F0 m 50 ls [.int v_20]) := by
                intro v_20 ls H_18 L_19 hl hw ev_20
                have hv9 : v_20 = bI (!anyB (j + 1) (fun i9 => smP X Y (fr + i9) (fr + k))) := ev_20.trans frs_e
                subst hv9
                refine lv_istore (lv' := [(6, .int (bI (!anyB (j + 1) (fun i9 => smP X Y (fr + i9) (fr + k))))), (7, .int (nI j)), (5, .int (nI k)), (4, .int (nI (cntF X Y fr k))), (3, .int (nI ls9)), (2, .int (nI n9)), (1, .int (nI fr)), (0, .ref mo)]) hx hb dX10_isFew_50 hl (by decide) rfl (fun ls hl => ?_)
                refine lv_iinc (v := nI (j + 1)) (lv' := [(7, .int (nI (j + 1))), (6, .int (bI (!anyB (j + 1) (fun i9 => smP X Y (fr + i9) (fr + k))))), (5, .int (nI k)), (4, .int (nI (cntF X Y fr k))), (3, .int (nI ls9)), (2, .int (nI n9)), (1, .int (nI fr)), (0, .ref mo)]) hx hb dX10_isFew_52 hl (k := 1) rfl (nI_c _ 1) (by decide) rfl (fun ls hl => ?_)
                refine lv_goto (tgt := 18) hx hb dX10_isFew_55 (by decide) ?_
                exact ih18 (j + 1) ls _ _ (by omega) (by omega) (lv_sub hl [0, 1, 2, 3, 4, 5, 6, 7] rfl) hw
              refine lv_if_eq (tgt := 49) hx hb dX10_isFew_27 (by decide) (fun c_9 => ?_) (fun c_9 => ?_)
              · skip
                have c_9 : (!anyB j (fun i9 => smP X Y (fr + i9) (fr + k))) = false := bI_0.mp c_9
                refine lv_iconst (v := 0) hx hb dX10_isFew_49 (by decide) ?_
                exact J_21 0 ls _ _ (lv_sub hl [0, 1, 2, 3, 4, 5, 6, 7] rfl) hw (by rw [if_pos c_9])
              · skip
                have c_9 : ¬ ((!anyB j (fun i9 => smP X Y (fr + i9) (fr + k))) = false) := (not_congr bI_0).mp c_9
                refine lv_aload_n hx hb dX10_isFew_30 rfl (lv_at hl 7 rfl) ?_
                refine lv_iload_n hx hb dX10_isFew_31 rfl (lv_at hl 6 rfl) ?_
                refine lv_iload hx hb dX10_isFew_32 (lv_at hl 0 rfl) ?_
                refine lv_iadd hx hb dX10_isFew_34 ?_
                refine lv_topi (fun t_10 et_10 => ?_)
                obtain rfl : t_10 = nI (fr + j) := et_10.trans (nI_add _ _)
                refine lv_iload_n hx hb dX10_isFew_35 rfl (lv_at hl 6 rfl) ?_
                refine lv_iload hx hb dX10_isFew_36 (lv_at hl 2 rfl) ?_
                refine lv_iadd hx hb dX10_isFew_38 ?_
                refine lv_topi (fun t_11 et_11 => ?_)
                obtain rfl : t_11 = nI (fr + k) := et_11.trans (nI_add _ _)
                refine h_callV (n := 2) (ci := 10) (b := mo) (As := [.int (nI (fr + j)), .int (nI (fr + k))]) (rest := []) ⟨hx, hb, hml, hown, hts⟩ hK hw (c_X10_same l D dT ah H18.size mo AR q g hm np X Y hX (fr + j) (fr + k) (by omega) (by omega)) ko_X10_same km_X10_103 ki_X10_same ks_X10_same kn_X10 (by decide +kernel) rfl hm.1 rfl hl.1 rfl (by simp [Value.category]) dX10_isFew_39 (by rw [hR]; exact ⟨rfl, rfl, Nat.le_of_ble_eq_true rfl, Nat.le_of_ble_eq_true rfl, by simp, by simp⟩) (fun r_12 ah_13 H_14 L_15 st_16 hp hw hst => ?_)
                obtain ⟨rfl, rfl⟩ := hp
                have hst : st_16 = [.int (bI (smP X Y (fr + j) (fr + k)))] := hst
                subst hst
                refine lv_if_ne (tgt := 49) hx hb dX10_isFew_42 (by decide) (fun c_17 => ?_) (fun c_17 => ?_)
                · skip
                  have c_17 : ¬ (smP X Y (fr + j) (fr + k) = false) := (not_congr bI_0).mp c_17
                  refine lv_iconst (v := 0) hx hb dX10_isFew_49 (by decide) ?_
                  exact J_21 0 ls _ _ (lv_sub hl [0, 1, 2, 3, 4, 5, 6, 7] rfl) hw (by rw [if_neg c_9, if_neg c_17])
                · skip
                  have c_17 : smP X Y (fr + j) (fr + k) = false := bI_0.mp c_17
                  refine lv_iconst (v := 1) hx hb dX10_isFew_45 (by decide) ?_
                  refine lv_goto (tgt := 50) hx hb dX10_isFew_46 (by decide) ?_
                  exact J_21 1 ls _ _ (lv_sub hl [0, 1, 2, 3, 4, 5, 6, 7] rfl) hw (by rw [if_neg c_9, if_pos c_17])
        exact LP18 ((k - 0) + 1) 0 ls _ _ (Nat.lt_succ_self _) (by omega) (lv_sub hl [0, 1, 2, 3, 4, 5, 6, 7] rfl) hw
  exact LP6 ((n9 - 0) + 1) 0 ls _ _ (Nat.lt_succ_self _) (by omega) hls (lv_sub hl [0, 1, 5, 4, 3, 2] rfl) hw

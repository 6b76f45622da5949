/-! ShapeJudgeModel -/
def moF (q : Nat → Int32) (AR : Nat → Nat) : List Value := [.int (q 0), .int (q 1), .int (q 2), .int (q 3), .int (q 4), .ref (AR 0), .ref (AR 1), .ref (AR 2), .ref (AR 3), .ref (AR 4), .ref (AR 5), .ref (AR 6), .ref (AR 7), .ref (AR 8), .ref (AR 9), .ref (AR 10), .int (q 5), .ref (AR 11), .ref (AR 12), .int (q 6), .int (q 7), .ref (AR 13), .int (q 8), .int (q 9), .int (q 10), .int (q 11)]
theorem mf_0 {q : Nat → Int32} {AR : Nat → Nat} {v : Int32} : (moF q AR).set 0 (.int v) = moF (upd q 0 v) AR := rfl
theorem mv_0 {q : Nat → Int32} {AR : Nat → Nat} : vp_V (moF q AR) 0 = .int (q 0) := rfl
theorem mf_1 {q : Nat → Int32} {AR : Nat → Nat} {v : Int32} : (moF q AR).set 1 (.int v) = moF (upd q 1 v) AR := rfl
theorem mv_1 {q : Nat → Int32} {AR : Nat → Nat} : vp_V (moF q AR) 1 = .int (q 1) := rfl
theorem mf_2 {q : Nat → Int32} {AR : Nat → Nat} {v : Int32} : (moF q AR).set 2 (.int v) = moF (upd q 2 v) AR := rfl
theorem mv_2 {q : Nat → Int32} {AR : Nat → Nat} : vp_V (moF q AR) 2 = .int (q 2) := rfl
theorem mf_3 {q : Nat → Int32} {AR : Nat → Nat} {v : Int32} : (moF q AR).set 3 (.int v) = moF (upd q 3 v) AR := rfl
theorem mv_3 {q : Nat → Int32} {AR : Nat → Nat} : vp_V (moF q AR) 3 = .int (q 3) := rfl
theorem mf_4 {q : Nat → Int32} {AR : Nat → Nat} {v : Int32} : (moF q AR).set 4 (.int v) = moF (upd q 4 v) AR := rfl
theorem mv_4 {q : Nat → Int32} {AR : Nat → Nat} : vp_V (moF q AR) 4 = .int (q 4) := rfl
theorem mf_16 {q : Nat → Int32} {AR : Nat → Nat} {v : Int32} : (moF q AR).set 16 (.int v) = moF (upd q 5 v) AR := rfl
theorem mv_16 {q : Nat → Int32} {AR : Nat → Nat} : vp_V (moF q AR) 16 = .int (q 5) := rfl
theorem mf_19 {q : Nat → Int32} {AR : Nat → Nat} {v : Int32} : (moF q AR).set 19 (.int v) = moF (upd q 6 v) AR := rfl
theorem mv_19 {q : Nat → Int32} {AR : Nat → Nat} : vp_V (moF q AR) 19 = .int (q 6) := rfl
theorem mf_20 {q : Nat → Int32} {AR : Nat → Nat} {v : Int32} : (moF q AR).set 20 (.int v) = moF (upd q 7 v) AR := rfl
theorem mv_20 {q : Nat → Int32} {AR : Nat → Nat} : vp_V (moF q AR) 20 = .int (q 7) := rfl
theorem mf_22 {q : Nat → Int32} {AR : Nat → Nat} {v : Int32} : (moF q AR).set 22 (.int v) = moF (upd q 8 v) AR := rfl
theorem mv_22 {q : Nat → Int32} {AR : Nat → Nat} : vp_V (moF q AR) 22 = .int (q 8) := rfl
theorem mf_23 {q : Nat → Int32} {AR : Nat → Nat} {v : Int32} : (moF q AR).set 23 (.int v) = moF (upd q 9 v) AR := rfl
theorem mv_23 {q : Nat → Int32} {AR : Nat → Nat} : vp_V (moF q AR) 23 = .int (q 9) := rfl
theorem mf_24 {q : Nat → Int32} {AR : Nat → Nat} {v : Int32} : (moF q AR).set 24 (.int v) = moF (upd q 10 v) AR := rfl
theorem mv_24 {q : Nat → Int32} {AR : Nat → Nat} : vp_V (moF q AR) 24 = .int (q 10) := rfl
theorem mf_25 {q : Nat → Int32} {AR : Nat → Nat} {v : Int32} : (moF q AR).set 25 (.int v) = moF (upd q 11 v) AR := rfl
theorem mv_25 {q : Nat → Int32} {AR : Nat → Nat} : vp_V (moF q AR) 25 = .int (q 11) := rfl
theorem upd_s {q : Nat → Int32} {k : Nat} {a b : Int32} : upd (upd q k a) k b = upd q k b := by funext j; simp only [upd]; split <;> rfl
theorem upd_c {q : Nat → Int32} {j k : Nat} {a b : Int32} (h : ¬ k = j) : upd (upd q j a) k b = upd (upd q k b) j a := by
  funext i; simp only [upd]
  by_cases h1 : i = k
  · subst h1; simp [h]
  · by_cases h2 : i = j
    · subst h2; simp [h1]
    · simp [h1, h2]
theorem upd_e {q : Nat → Int32} {k : Nat} {a : Int32} : upd q k a k = a := if_pos rfl
theorem upd_n {q : Nat → Int32} {j k : Nat} {a : Int32} (h : ¬ j = k) : upd q k a j = q j := if_neg h
def LN (k : Nat) : Nat := if k < 7 then 2048 else if k < 11 then 4096 else if k = 11 then 50 else if k = 12 then 7 else 4096
/-- the model's object and its fourteen arrays -/
def moA (dT : Nat → ClassId) (ah : hA) (mo : Nat) (AR : Nat → Nat) (q : Nat → Int32) (g : Nat → Nat → Int32) : Prop :=
  ah mo = some (.inr (10, moF q AR)) ∧ (∀ k, k < 14 → ah (AR k) = some (.inl (dT 0, LN k, .inl (g k)))) ∧ ∀ i j, i < 14 → j < 14 → AR i = AR j → i = j
theorem moA_q {dT : Nat → ClassId} {ah ah2 : hA} {mo : Nat} {AR : Nat → Nat} {q q2 : Nat → Int32} {g : Nat → Nat → Int32} (h : moA dT ah mo AR q g) (e : ah2 = hup ah mo (.inr (10, moF q2 AR))) : moA dT ah2 mo AR q2 g :=
  ⟨by rw [e, hup_s], fun k hk => by rw [e, hup_n (h_ne (h.2.1 k hk) h.1 (by simp))]; exact h.2.1 k hk, h.2.2⟩
theorem moA_g {dT : Nat → ClassId} {ah ah2 : hA} {mo : Nat} {AR : Nat → Nat} {q : Nat → Int32} {g : Nat → Nat → Int32} {g' : Nat → Int32} (h : moA dT ah mo AR q g) (k : Nat) (hk : k < 14) (e : ah2 = hup ah (AR k) (.inl (dT 0, LN k, .inl g'))) : moA dT ah2 mo AR q (va_up g k g') := by
  refine ⟨by rw [e, hup_n (h_ne h.1 (h.2.1 k hk) (by simp))]; exact h.1, fun i hi => ?_, h.2.2⟩
  by_cases ei : i = k
  · subst ei; rw [e, hup_s]; simp [va_up]
  · rw [e, hup_n (fun h9 => ei (h.2.2 i k hi hk h9))]; simp only [va_up, if_neg ei]; exact h.2.1 i hi
theorem moA_id {dT : Nat → ClassId} {ah : hA} {mo : Nat} {AR : Nat → Nat} {q q2 : Nat → Int32} {g : Nat → Nat → Int32} (h : moA dT ah mo AR q g) (e : moF q AR = moF q2 AR) : hup ah mo (.inr (10, moF q2 AR)) = ah := hup_id (by rw [← e]; exact h.1)
theorem moA_a {dT : Nat → ClassId} {ah : hA} {mo : Nat} {AR : Nat → Nat} {q : Nat → Int32} {g : Nat → Nat → Int32} {n : Nat} {f : Nat → Int32} (h : moA dT ah mo AR q g) (k : Nat) (hk : k < 14) (e1 : LN k = n) (e2 : g k = f) : ah (AR k) = some (.inl (dT 0, n, .inl f)) := by rw [← e1, ← e2]; exact h.2.1 k hk
def moX (np : Nat) (g : Nat → Nat → Int32) (X Y : Nat → Int32) : Prop := np ≤ 4096 ∧ ∀ j, j < np → g 9 j = X j ∧ g 10 j = Y j
def moR (np nr : Nat) (g : Nat → Nat → Int32) (RP RN : Nat → Nat) : Prop := nr ≤ 4096 ∧ ∀ r, r < nr → g 7 r = nI (RP r) ∧ g 8 r = nI (RN r) ∧ RP r + RN r ≤ np
def mBeg (X Y : Nat → Int32) (mx my : Int32) (a : Nat) : Bool := if X a = mx then (if Y a = my then true else false) else false
theorem nIm {q : Nat} (h : q < 2 ^ 30) : (nI q - 1).toInt = (q : Int) - 1 := by
  rw [Int32.toInt_sub, show (nI q).toInt = (q : Int) from nI_toInt (by omega)]
  show ((q : Int) - 1).bmod (2 ^ 32) = _
  rw [Int.bmod_eq_of_le (by omega) (by omega)]
theorem nIm_lt {a q : Nat} (ha : a < 2 ^ 30) (h : q < 2 ^ 30) : nI a < nI q - 1 ↔ a + 1 < q := by
  rw [Int32.lt_iff_toInt_lt, nIm h, show (nI a).toInt = (a : Int) from nI_toInt (by omega)]; omega
theorem nIm_le {a q : Nat} (ha : a < 2 ^ 30) (h : q < 2 ^ 30) : nI q - 1 ≤ nI a ↔ q ≤ a + 1 := by
  rw [Int32.le_iff_toInt_le, nIm h, show (nI a).toInt = (a : Int) from nI_toInt (by omega)]; omega
theorem nIm_gt {a q : Nat} (ha : a < 2 ^ 30) (h : q < 2 ^ 30) : nI q - 1 < nI a ↔ q < a + 1 := by
  rw [Int32.lt_iff_toInt_lt, nIm h, show (nI a).toInt = (a : Int) from nI_toInt (by omega)]; omega
theorem nIm_ge {a q : Nat} (ha : a < 2 ^ 30) (h : q < 2 ^ 30) : nI a ≤ nI q - 1 ↔ a + 1 ≤ q := by
  rw [Int32.le_iff_toInt_le, nIm h, show (nI a).toInt = (a : Int) from nI_toInt (by omega)]; omega
def wiB (x lo hi : Int32) : Bool := (if x < lo then false else (if hi < x then false else true))
set_option maxHeartbeats 4000000 in
set_option maxRecDepth 100000 in
theorem c_X10_within (l : Launch) (D : va_G) (dT : Nat → ClassId) (ah : hA) (sz : Nat) (x lo hi : Int32) : hMet l yX10_within cX10_within 3 (some .boolean) ({ frames := 0, cells := 0, slots := 0, locals := 0 }) D dT [.int x, .int lo, .int hi] ah sz (fun r ah2 => r = some (.int (bI (wiB x lo hi))) ∧ ah = ah2) 0 0 := by
  refine h_met (by decide) (Nat.le_of_ble_eq_true rfl) ?_
  intro p e s m below meth c ls R Q args hav hR hQ hB hl hsz hw
  obtain ⟨hx, hb, hml, hr, hts, hown, hlk, hin, hK⟩ := hB
  have hown : s.vm.findClass RX10 = some m.cls := hown
  have hl : lv_has ls 3 [(0, .int x), (1, .int lo), (2, .int hi)] := hl
  refine lv_iload_n hx hb dX10_within_0 rfl (lv_at hl 0 rfl) ?_
  refine lv_iload_n hx hb dX10_within_1 rfl (lv_at hl 1 rfl) ?_
  have J_4 : ∀ (v_3 : Int32) (ls : Array Slot), lv_has ls 3 [(0, .int x), (1, .int lo), (2, .int hi)] → v_3 = (if x < lo then 0 else (if hi < x then 0 else 1)) → W p l e R s m args below meth c s.heap [] (0) (0) Q (F0 m 15 ls [.int v_3]) := by
    intro v_3 ls hl ev_3
    have hv : v_3 = bI (wiB x lo hi) := by
      subst ev_3
      unfold wiB
      simp only [bI_if, bI_t, bI_f]
      all_goals rfl
    rw [hQ]
    exact h_zret hx hb hr hlk hsz hw (by simp) (by simp) dX10_within_15 (bI_v hv) ⟨congrArg (fun z => some (Value.int z)) hv, rfl⟩
  refine lv_icmp_lt (tgt := 14) hx hb dX10_within_2 (by decide) (fun c_1 => ?_) (fun c_1 => ?_)
  · skip
    refine lv_iconst (v := 0) hx hb dX10_within_14 (by decide) ?_
    exact J_4 0 ls (lv_sub hl [0, 1, 2] rfl) (by rw [if_pos c_1])
  · skip
    refine lv_iload_n hx hb dX10_within_5 rfl (lv_at hl 0 rfl) ?_
    refine lv_iload_n hx hb dX10_within_6 rfl (lv_at hl 2 rfl) ?_
    refine lv_icmp_gt (tgt := 14) hx hb dX10_within_7 (by decide) (fun c_2 => ?_) (fun c_2 => ?_)
    · skip
      refine lv_iconst (v := 0) hx hb dX10_within_14 (by decide) ?_
      exact J_4 0 ls (lv_sub hl [0, 1, 2] rfl) (by rw [if_neg c_1, if_pos c_2])
    · skip
      refine lv_iconst (v := 1) hx hb dX10_within_10 (by decide) ?_
      refine lv_goto (tgt := 15) hx hb dX10_within_11 (by decide) ?_
      exact J_4 1 ls (lv_sub hl [0, 1, 2] rfl) (by rw [if_neg c_1, if_neg c_2])

def sgn (v : Int64) : Int32 := (if v ≤ 0 then (if 0 ≤ v then 0 else (-1)) else 1)
set_option maxHeartbeats 4000000 in
set_option maxRecDepth 100000 in
theorem c_X10_sign (l : Launch) (D : va_G) (dT : Nat → ClassId) (ah : hA) (sz : Nat) (v : Int64) : hMet l yX10_sign cX10_sign 2 (some .int) ({ frames := 0, cells := 0, slots := 0, locals := 0 }) D dT [.long v] ah sz (fun r ah2 => r = some (.int (sgn v)) ∧ ah = ah2) 0 0 := by
  refine h_met (by decide) (Nat.le_of_ble_eq_true rfl) ?_
  intro p e s m below meth c ls R Q args hav hR hQ hB hl hsz hw
  obtain ⟨hx, hb, hml, hr, hts, hown, hlk, hin, hK⟩ := hB
  have hown : s.vm.findClass RX10 = some m.cls := hown
  have hl : lv_has ls 2 [(0, .long v)] := hl
  refine lv_lload_n hx hb dX10_sign_0 rfl (lv_at hl 0 rfl) ?_
  refine lv_lconst (v := 0) hx hb dX10_sign_1 (by decide) ?_
  refine W.lcmp hx hb dX10_sign_2 ?_
  have J_4 : ∀ (v_3 : Int32) (ls : Array Slot), lv_has ls 2 [(0, .long v)] → v_3 = (if v ≤ 0 then (if 0 ≤ v then 0 else (-1)) else 1) → W p l e R s m args below meth c s.heap [] (0) (0) Q (F0 m 21 ls [.int v_3]) := by
    intro v_3 ls hl ev_3
    have hv : v_3 = sgn v := by
      subst ev_3
      unfold sgn
      all_goals rfl
    rw [hQ]
    exact h_iret hx hb hr hlk hsz hw (by simp) (by simp) dX10_sign_21 ⟨congrArg (fun z => some (Value.int z)) hv, rfl⟩
  refine lv_if_le (tgt := 10) hx hb dX10_sign_3 (by decide) (fun c_1 => ?_) (fun c_1 => ?_)
  · skip
    have c_1 : v ≤ 0 := lgc_le.mp c_1
    refine lv_lload_n hx hb dX10_sign_10 rfl (lv_at hl 0 rfl) ?_
    refine lv_lconst (v := 0) hx hb dX10_sign_11 (by decide) ?_
    refine W.lcmp hx hb dX10_sign_12 ?_
    refine lv_if_ge (tgt := 20) hx hb dX10_sign_13 (by decide) (fun c_2 => ?_) (fun c_2 => ?_)
    · skip
      have c_2 : 0 ≤ v := lgc_ge.mp c_2
      refine lv_iconst (v := 0) hx hb dX10_sign_20 (by decide) ?_
      exact J_4 0 ls (lv_sub hl [0] rfl) (by rw [if_pos c_1, if_pos c_2])
    · skip
      have c_2 : ¬ (0 ≤ v) := (not_congr lgc_ge).mp c_2
      refine lv_iconst (v := (-1)) hx hb dX10_sign_16 (by decide) ?_
      refine lv_goto (tgt := 21) hx hb dX10_sign_17 (by decide) ?_
      exact J_4 (-1) ls (lv_sub hl [0] rfl) (by rw [if_pos c_1, if_neg c_2])
  · skip
    have c_1 : ¬ (v ≤ 0) := (not_congr lgc_le).mp c_1
    refine lv_iconst (v := 1) hx hb dX10_sign_6 (by decide) ?_
    refine lv_goto (tgt := 21) hx hb dX10_sign_7 (by decide) ?_
    exact J_4 1 ls (lv_sub hl [0] rfl) (by rw [if_neg c_1])

def crs (ax ay bx bY : Int32) : Int32 := sgn (((ax).toInt64 * (bY).toInt64) - ((ay).toInt64 * (bx).toInt64))
set_option maxHeartbeats 4000000 in
set_option maxRecDepth 100000 in
theorem c_X10_cross (l : Launch) (D : va_G) (dT : Nat → ClassId) (ah : hA) (sz : Nat) (ax ay bx bY : Int32) : hMet l yX10_cross cX10_cross 4 (some .int) ({ frames := 1, cells := 0, slots := 0, locals := 21 }) D dT [.int ax, .int ay, .int bx, .int bY] ah sz (fun r ah2 => r = some (.int (crs ax ay bx bY)) ∧ ah = ah2) 0 0 := by
  refine h_met (by decide) (Nat.le_of_ble_eq_true rfl) ?_
  intro p e s m below meth c ls R Q args hav hR hQ hB hl hsz hw
  obtain ⟨hx, hb, hml, hr, hts, hown, hlk, hin, hK⟩ := hB
  have hown : s.vm.findClass RX10 = some m.cls := hown
  have hl : lv_has ls 4 [(0, .int ax), (1, .int ay), (2, .int bx), (3, .int bY)] := hl
  refine lv_iload_n hx hb dX10_cross_0 rfl (lv_at hl 0 rfl) ?_
  refine lv_i2l (v := (ax).toInt64) hx hb dX10_cross_1 rfl ?_
  refine lv_iload_n hx hb dX10_cross_2 rfl (lv_at hl 3 rfl) ?_
  refine lv_i2l (v := (bY).toInt64) hx hb dX10_cross_3 rfl ?_
  refine lv_lmul hx hb dX10_cross_4 ?_
  refine lv_iload_n hx hb dX10_cross_5 rfl (lv_at hl 1 rfl) ?_
  refine lv_i2l (v := (ay).toInt64) hx hb dX10_cross_6 rfl ?_
  refine lv_iload_n hx hb dX10_cross_7 rfl (lv_at hl 2 rfl) ?_
  refine lv_i2l (v := (bx).toInt64) hx hb dX10_cross_8 rfl ?_
  refine lv_lmul hx hb dX10_cross_9 ?_
  refine lv_lsub hx hb dX10_cross_10 ?_
  refine h_callS (n := 1) (As := [.long (((ax).toInt64 * (bY).toInt64) - ((ay).toInt64 * (bx).toInt64))]) (rest := []) ⟨hx, hb, hml, hown, hts⟩ hK hw (c_X10_sign l D dT ah s.heap.size (((ax).toInt64 * (bY).toInt64) - ((ay).toInt64 * (bx).toInt64))) ko_X10_sign km_X10_92 kt_X10_sign kn_X10 (by decide +kernel) rfl hl.1 rfl (by simp [Value.category]) dX10_cross_11 (by rw [hR]; exact ⟨rfl, rfl, Nat.le_of_ble_eq_true rfl, Nat.le_of_ble_eq_true rfl, by simp, by simp⟩) (fun r_1 ah_2 H_3 L_4 st_5 hp hw hst => ?_)
  obtain ⟨rfl, rfl⟩ := hp
  have hst : st_5 = [.int (sgn (((ax).toInt64 * (bY).toInt64) - ((ay).toInt64 * (bx).toInt64)))] := hst
  subst hst
  have hv : sgn (((ax).toInt64 * (bY).toInt64) - ((ay).toInt64 * (bx).toInt64)) = crs ax ay bx bY := by
    unfold crs
    all_goals rfl
  rw [hQ]
  exact h_iret hx hb hr hlk hsz hw (by simp) (by simp) dX10_cross_14 ⟨congrArg (fun z => some (Value.int z)) hv, rfl⟩

def btw (x lo hi : Int32) : Bool := (if hi ≤ lo then (wiB x hi lo) else (wiB x lo hi))
set_option maxHeartbeats 4000000 in
set_option maxRecDepth 100000 in
theorem c_X10_between (l : Launch) (D : va_G) (dT : Nat → ClassId) (ah : hA) (sz : Nat) (x lo hi : Int32) : hMet l yX10_between cX10_between 3 (some .boolean) ({ frames := 1, cells := 0, slots := 0, locals := 22 }) D dT [.int x, .int lo, .int hi] ah sz (fun r ah2 => r = some (.int (bI (btw x lo hi))) ∧ ah = ah2) 0 0 := by
  refine h_met (by decide) (Nat.le_of_ble_eq_true rfl) ?_
  intro p e s m below meth c ls R Q args hav hR hQ hB hl hsz hw
  obtain ⟨hx, hb, hml, hr, hts, hown, hlk, hin, hK⟩ := hB
  have hown : s.vm.findClass RX10 = some m.cls := hown
  have hl : lv_has ls 3 [(0, .int x), (1, .int lo), (2, .int hi)] := hl
  refine lv_iload_n hx hb dX10_between_0 rfl (lv_at hl 1 rfl) ?_
  refine lv_iload_n hx hb dX10_between_1 rfl (lv_at hl 2 rfl) ?_
  refine lv_icmp_ge (tgt := 14) hx hb dX10_between_2 (by decide) (fun c_1 => ?_) (fun c_1 => ?_)
  · skip
    refine lv_iload_n hx hb dX10_between_14 rfl (lv_at hl 0 rfl) ?_
    refine lv_iload_n hx hb dX10_between_15 rfl (lv_at hl 2 rfl) ?_
    refine lv_iload_n hx hb dX10_between_16 rfl (lv_at hl 1 rfl) ?_
    refine h_callS (n := 3) (As := [.int x, .int hi, .int lo]) (rest := []) ⟨hx, hb, hml, hown, hts⟩ hK hw (c_X10_within l D dT ah s.heap.size x hi lo) ko_X10_within km_X10_78 kt_X10_within kn_X10 (by decide +kernel) rfl hl.1 rfl (by simp [Value.category]) dX10_between_17 (by rw [hR]; exact ⟨rfl, rfl, Nat.le_of_ble_eq_true rfl, Nat.le_of_ble_eq_true rfl, by simp, by simp⟩) (fun r_2 ah_3 H_4 L_5 st_6 hp hw hst => ?_)
    obtain ⟨rfl, rfl⟩ := hp
    have hst : st_6 = [.int (bI (wiB x hi lo))] := hst
    subst hst
    have hv : bI (wiB x hi lo) = bI (btw x lo hi) := by
      unfold btw
      simp only [bI_if, bI_t, bI_f]
      all_goals rw [if_pos c_1]
    rw [hQ]
    exact h_zret hx hb hr hlk hsz hw (by simp) (by simp) dX10_between_20 (bI_v hv) ⟨congrArg (fun z => some (Value.int z)) hv, rfl⟩
  · skip
    refine lv_iload_n hx hb dX10_between_5 rfl (lv_at hl 0 rfl) ?_
    refine lv_iload_n hx hb dX10_between_6 rfl (lv_at hl 1 rfl) ?_
    refine lv_iload_n hx hb dX10_between_7 rfl (lv_at hl 2 rfl) ?_
    refine h_callS (n := 3) (As := [.int x, .int lo, .int hi]) (rest := []) ⟨hx, hb, hml, hown, hts⟩ hK hw (c_X10_within l D dT ah s.heap.size x lo hi) ko_X10_within km_X10_78 kt_X10_within kn_X10 (by decide +kernel) rfl hl.1 rfl (by simp [Value.category]) dX10_between_8 (by rw [hR]; exact ⟨rfl, rfl, Nat.le_of_ble_eq_true rfl, Nat.le_of_ble_eq_true rfl, by simp, by simp⟩) (fun r_7 ah_8 H_9 L_10 st_11 hp hw hst => ?_)
    obtain ⟨rfl, rfl⟩ := hp
    have hst : st_11 = [.int (bI (wiB x lo hi))] := hst
    subst hst
    refine lv_goto (tgt := 20) hx hb dX10_between_11 (by decide) ?_
    have hv : bI (wiB x lo hi) = bI (btw x lo hi) := by
      unfold btw
      simp only [bI_if, bI_t, bI_f]
      all_goals rw [if_neg c_1]
    rw [hQ]
    exact h_zret hx hb hr hlk hsz hw (by simp) (by simp) dX10_between_20 (bI_v hv) ⟨congrArg (fun z => some (Value.int z)) hv, rfl⟩

def ilf (x y ox oy kx ky : Int32) : Bool := (if crs ox oy kx ky ≤ 0 then (if 0 ≤ crs ox oy kx ky then (if ((if sgn ((ox).toInt64) = sgn ((kx).toInt64) then (if sgn ((oy).toInt64) = sgn ((ky).toInt64) then 0 else 1) else 1) : Int32) = 0 then false else (if crs ox oy x y ≤ 0 then false else true)) else (if 0 < crs ox oy x y then true else (if crs x y kx ky ≤ 0 then false else true))) else (if crs ox oy x y ≤ 0 then false else (if crs x y kx ky ≤ 0 then false else true)))
set_option maxHeartbeats 4000000 in
set_option maxRecDepth 100000 in
theorem c_X10_isLeft (l : Launch) (D : va_G) (dT : Nat → ClassId) (ah : hA) (sz : Nat) (x y ox oy kx ky : Int32) : hMet l yX10_isLeft cX10_isLeft 10 (some .boolean) ({ frames := 2, cells := 0, slots := 0, locals := 44 }) D dT [.int x, .int y, .int ox, .int oy, .int kx, .int ky] ah sz (fun r ah2 => r = some (.int (bI (ilf x y ox oy kx ky))) ∧ ah = ah2) 0 0 := by
  refine h_met (by decide) (Nat.le_of_ble_eq_true rfl) ?_
  intro p e s m below meth c ls R Q args hav hR hQ hB hl hsz hw
  obtain ⟨hx, hb, hml, hr, hts, hown, hlk, hin, hK⟩ := hB
  have hown : s.vm.findClass RX10 = some m.cls := hown
  have hl : lv_has ls 10 [(0, .int x), (1, .int y), (2, .int ox), (3, .int oy), (4, .int kx), (5, .int ky)] := hl
  refine lv_iload_n hx hb dX10_isLeft_0 rfl (lv_at hl 2 rfl) ?_
  refine lv_iload_n hx hb dX10_isLeft_1 rfl (lv_at hl 3 rfl) ?_
  refine lv_iload hx hb dX10_isLeft_2 (lv_at hl 4 rfl) ?_
  refine lv_iload hx hb dX10_isLeft_4 (lv_at hl 5 rfl) ?_
  refine h_callS (n := 4) (As := [.int ox, .int oy, .int kx, .int ky]) (rest := []) ⟨hx, hb, hml, hown, hts⟩ hK hw (c_X10_cross l D dT ah s.heap.size ox oy kx ky) ko_X10_cross km_X10_142 kt_X10_cross kn_X10 (by decide +kernel) rfl hl.1 rfl (by simp [Value.category]) dX10_isLeft_6 (by rw [hR]; exact ⟨rfl, rfl, Nat.le_of_ble_eq_true rfl, Nat.le_of_ble_eq_true rfl, by simp, by simp⟩) (fun r_1 ah_2 H_3 L_4 st_5 hp hw hst => ?_)
  obtain ⟨rfl, rfl⟩ := hp
  have hst : st_5 = [.int (crs ox oy kx ky)] := hst
  subst hst
  refine lv_istore (lv' := [(6, .int (crs ox oy kx ky)), (0, .int x), (1, .int y), (2, .int ox), (3, .int oy), (4, .int kx), (5, .int ky)]) hx hb dX10_isLeft_9 hl (by decide) rfl (fun ls hl => ?_)
  refine lv_iload_n hx hb dX10_isLeft_11 rfl (lv_at hl 3 rfl) ?_
  refine lv_iload_n hx hb dX10_isLeft_12 rfl (lv_at hl 4 rfl) ?_
  refine lv_iload_n hx hb dX10_isLeft_13 rfl (lv_at hl 1 rfl) ?_
  refine lv_iload_n hx hb dX10_isLeft_14 rfl (lv_at hl 2 rfl) ?_
  refine h_callS (n := 4) (As := [.int ox, .int oy, .int x, .int y]) (rest := []) ⟨hx, hb, hml, hown, hts⟩ hK hw (c_X10_cross l D dT ah H_3.size ox oy x y) ko_X10_cross km_X10_142 kt_X10_cross kn_X10 (by decide +kernel) rfl hl.1 rfl (by simp [Value.category]) dX10_isLeft_15 (by rw [hR]; exact ⟨rfl, rfl, Nat.le_of_ble_eq_true rfl, Nat.le_of_ble_eq_true rfl, by simp, by simp⟩) (fun r_6 ah_7 H_8 L_9 st_10 hp hw hst => ?_)
  obtain ⟨rfl, rfl⟩ := hp
  have hst : st_10 = [.int (crs ox oy x y)] := hst
  subst hst
  refine lv_istore (lv' := [(7, .int (crs ox oy x y)), (6, .int (crs ox oy kx ky)), (0, .int x), (1, .int y), (2, .int ox), (3, .int oy), (4, .int kx), (5, .int ky)]) hx hb dX10_isLeft_18 hl (by decide) rfl (fun ls hl => ?_)
  refine lv_iload_n hx hb dX10_isLeft_20 rfl (lv_at hl 2 rfl) ?_
  refine lv_iload_n hx hb dX10_isLeft_21 rfl (lv_at hl 3 rfl) ?_
  refine lv_iload hx hb dX10_isLeft_22 (lv_at hl 6 rfl) ?_
  refine lv_iload hx hb dX10_isLeft_24 (lv_at hl 7 rfl) ?_
  refine h_callS (n := 4) (As := [.int x, .int y, .int kx, .int ky]) (rest := []) ⟨hx, hb, hml, hown, hts⟩ hK hw (c_X10_cross l D dT ah H_8.size x y kx ky) ko_X10_cross km_X10_142 kt_X10_cross kn_X10 (by decide +kernel) rfl hl.1 rfl (by simp [Value.category]) dX10_isLeft_26 (by rw [hR]; exact ⟨rfl, rfl, Nat.le_of_ble_eq_true rfl, Nat.le_of_ble_eq_true rfl, by simp, by simp⟩) (fun r_11 ah_12 H_13 L_14 st_15 hp hw hst => ?_)
  obtain ⟨rfl, rfl⟩ := hp
  have hst : st_15 = [.int (crs x y kx ky)] := hst
  subst hst
  refine lv_istore (lv' := [(8, .int (crs x y kx ky)), (7, .int (crs ox oy x y)), (6, .int (crs ox oy kx ky)), (0, .int x), (1, .int y), (2, .int ox), (3, .int oy), (4, .int kx), (5, .int ky)]) hx hb dX10_isLeft_29 hl (by decide) rfl (fun ls hl => ?_)
  refine lv_iload hx hb dX10_isLeft_31 (lv_at hl 2 rfl) ?_
  refine lv_if_le (tgt := 52) hx hb dX10_isLeft_33 (by decide) (fun c_16 => ?_) (fun c_16 => ?_)
  · skip
    refine lv_iload hx hb dX10_isLeft_52 (lv_at hl 2 rfl) ?_
    refine lv_if_ge (tgt := 73) hx hb dX10_isLeft_54 (by decide) (fun c_17 => ?_) (fun c_17 => ?_)
    · skip
      refine lv_iload_n hx hb dX10_isLeft_73 rfl (lv_at hl 5 rfl) ?_
      refine lv_i2l (v := (ox).toInt64) hx hb dX10_isLeft_74 rfl ?_
      refine h_callS (n := 1) (As := [.long ((ox).toInt64)]) (rest := []) ⟨hx, hb, hml, hown, hts⟩ hK hw (c_X10_sign l D dT ah H_13.size ((ox).toInt64)) ko_X10_sign km_X10_92 kt_X10_sign kn_X10 (by decide +kernel) rfl hl.1 rfl (by simp [Value.category]) dX10_isLeft_75 (by rw [hR]; exact ⟨rfl, rfl, Nat.le_of_ble_eq_true rfl, Nat.le_of_ble_eq_true rfl, by simp, by simp⟩) (fun r_18 ah_19 H_20 L_21 st_22 hp hw hst => ?_)
      obtain ⟨rfl, rfl⟩ := hp
      have hst : st_22 = [.int (sgn ((ox).toInt64))] := hst
      subst hst
      refine lv_iload hx hb dX10_isLeft_78 (lv_at hl 7 rfl) ?_
      refine lv_i2l (v := (kx).toInt64) hx hb dX10_isLeft_80 rfl ?_
      refine h_callS (n := 1) (As := [.long ((kx).toInt64)]) (rest := [.int (sgn ((ox).toInt64))]) ⟨hx, hb, hml, hown, hts⟩ hK hw (c_X10_sign l D dT ah H_20.size ((kx).toInt64)) ko_X10_sign km_X10_92 kt_X10_sign kn_X10 (by decide +kernel) rfl hl.1 rfl (by simp [Value.category]) dX10_isLeft_81 (by rw [hR]; exact ⟨rfl, rfl, Nat.le_of_ble_eq_true rfl, Nat.le_of_ble_eq_true rfl, by simp, by simp⟩) (fun r_23 ah_24 H_25 L_26 st_27 hp hw hst => ?_)
      obtain ⟨rfl, rfl⟩ := hp
      have hst : st_27 = [.int (sgn ((kx).toInt64)), .int (sgn ((ox).toInt64))] := hst
      subst hst
      have J_43 : ∀ (v_42 : Int32) (ls : Array Slot) (H_40 : Heap) (L_41 : List Loc), lv_has ls 10 [(8, .int (crs x y kx ky)), (7, .int (crs ox oy x y)), (6, .int (crs ox oy kx ky)), (0, .int x), (1, .int y), (2, .int ox), (3, .int oy), (4, .int kx), (5, .int ky)] → hW D ah s.heap ah H_40 L_41 → v_42 = (if sgn ((ox).toInt64) = sgn ((kx).toInt64) then (if sgn ((oy).toInt64) = sgn ((ky).toInt64) then 0 else 1) else 1) → W p l e R s m args below meth c H_40 L_41 (0) (0) Q (F0 m 106 ls [.int v_42]) := by
        intro v_42 ls H_40 L_41 hl hw ev_42
        refine lv_istore (lv' := [(9, .int v_42), (8, .int (crs x y kx ky)), (7, .int (crs ox oy x y)), (6, .int (crs ox oy kx ky)), (0, .int x), (1, .int y), (2, .int ox), (3, .int oy), (4, .int kx), (5, .int ky)]) hx hb dX10_isLeft_106 hl (by decide) rfl (fun ls hl => ?_)
        refine lv_iload hx hb dX10_isLeft_108 (lv_at hl 0 rfl) ?_
        have J_47 : ∀ (v_46 : Int32) (ls : Array Slot), lv_has ls 10 [(9, .int v_42), (8, .int (crs x y kx ky)), (7, .int (crs ox oy x y)), (6, .int (crs ox oy kx ky)), (0, .int x), (1, .int y), (2, .int ox), (3, .int oy), (4, .int kx), (5, .int ky)] → v_46 = (if v_42 = 0 then 0 else (if crs ox oy x y ≤ 0 then 0 else 1)) → W p l e R s m args below meth c H_40 L_41 (0) (0) Q (F0 m 123 ls [.int v_46]) := by
          intro v_46 ls hl ev_46
          have hv : v_46 = bI (ilf x y ox oy kx ky) := by
            subst ev_46
            subst ev_42
            unfold ilf
            simp only [bI_if, bI_t, bI_f]
            all_goals rw [if_pos c_16, if_pos c_17]
          rw [hQ]
          exact h_zret hx hb hr hlk hsz hw (by simp) (by simp) dX10_isLeft_123 (bI_v hv) ⟨congrArg (fun z => some (Value.int z)) hv, rfl⟩
        refine lv_if_eq (tgt := 122) hx hb dX10_isLeft_110 (by decide) (fun c_44 => ?_) (fun c_44 => ?_)
        · skip
          refine lv_iconst (v := 0) hx hb dX10_isLeft_122 (by decide) ?_
          exact J_47 0 ls (lv_sub hl [0, 1, 2, 3, 4, 5, 6, 7, 8, 9] rfl) (by rw [if_pos c_44])
        · skip
          refine lv_iload hx hb dX10_isLeft_113 (lv_at hl 2 rfl) ?_
          refine lv_if_le (tgt := 122) hx hb dX10_isLeft_115 (by decide) (fun c_45 => ?_) (fun c_45 => ?_)
          · skip
            refine lv_iconst (v := 0) hx hb dX10_isLeft_122 (by decide) ?_
            exact J_47 0 ls (lv_sub hl [0, 1, 2, 3, 4, 5, 6, 7, 8, 9] rfl) (by rw [if_neg c_44, if_pos c_45])
          · skip
            refine lv_iconst (v := 1) hx hb dX10_isLeft_118 (by decide) ?_
            refine lv_goto (tgt := 123) hx hb dX10_isLeft_119 (by decide) ?_
            exact J_47 1 ls (lv_sub hl [0, 1, 2, 3, 4, 5, 6, 7, 8, 9] rfl) (by rw [if_neg c_44, if_neg c_45])
      refine lv_icmp_ne (tgt := 101) hx hb dX10_isLeft_84 (by decide) (fun c_28 => ?_) (fun c_28 => ?_)
      · skip
        refine lv_iconst (v := 1) hx hb dX10_isLeft_101 (by decide) ?_
        refine lv_goto (tgt := 106) hx hb dX10_isLeft_102 (by decide) ?_
        exact J_43 1 ls _ _ (lv_sub hl [0, 1, 2, 3, 4, 5, 6, 7, 8] rfl) hw (by rw [if_neg c_28])
      · skip
        refine lv_iload_n hx hb dX10_isLeft_87 rfl (lv_at hl 6 rfl) ?_
        refine lv_i2l (v := (oy).toInt64) hx hb dX10_isLeft_88 rfl ?_
        refine h_callS (n := 1) (As := [.long ((oy).toInt64)]) (rest := []) ⟨hx, hb, hml, hown, hts⟩ hK hw (c_X10_sign l D dT ah H_25.size ((oy).toInt64)) ko_X10_sign km_X10_92 kt_X10_sign kn_X10 (by decide +kernel) rfl hl.1 rfl (by simp [Value.category]) dX10_isLeft_89 (by rw [hR]; exact ⟨rfl, rfl, Nat.le_of_ble_eq_true rfl, Nat.le_of_ble_eq_true rfl, by simp, by simp⟩) (fun r_29 ah_30 H_31 L_32 st_33 hp hw hst => ?_)
        obtain ⟨rfl, rfl⟩ := hp
        have hst : st_33 = [.int (sgn ((oy).toInt64))] := hst
        subst hst
        refine lv_iload hx hb dX10_isLeft_92 (lv_at hl 8 rfl) ?_
        refine lv_i2l (v := (ky).toInt64) hx hb dX10_isLeft_94 rfl ?_
        refine h_callS (n := 1) (As := [.long ((ky).toInt64)]) (rest := [.int (sgn ((oy).toInt64))]) ⟨hx, hb, hml, hown, hts⟩ hK hw (c_X10_sign l D dT ah H_31.size ((ky).toInt64)) ko_X10_sign km_X10_92 kt_X10_sign kn_X10 (by decide +kernel) rfl hl.1 rfl (by simp [Value.category]) dX10_isLeft_95 (by rw [hR]; exact ⟨rfl, rfl, Nat.le_of_ble_eq_true rfl, Nat.le_of_ble_eq_true rfl, by simp, by simp⟩) (fun r_34 ah_35 H_36 L_37 st_38 hp hw hst => ?_)
        obtain ⟨rfl, rfl⟩ := hp
        have hst : st_38 = [.int (sgn ((ky).toInt64)), .int (sgn ((oy).toInt64))] := hst
        subst hst
        refine lv_icmp_eq (tgt := 105) hx hb dX10_isLeft_98 (by decide) (fun c_39 => ?_) (fun c_39 => ?_)
        · skip
          refine lv_iconst (v := 0) hx hb dX10_isLeft_105 (by decide) ?_
          exact J_43 0 ls _ _ (lv_sub hl [0, 1, 2, 3, 4, 5, 6, 7, 8] rfl) hw (by rw [if_pos c_28, if_pos c_39])
        · skip
          refine lv_iconst (v := 1) hx hb dX10_isLeft_101 (by decide) ?_
          refine lv_goto (tgt := 106) hx hb dX10_isLeft_102 (by decide) ?_
          exact J_43 1 ls _ _ (lv_sub hl [0, 1, 2, 3, 4, 5, 6, 7, 8] rfl) hw (by rw [if_pos c_28, if_neg c_39])
    · skip
      refine lv_iload hx hb dX10_isLeft_57 (lv_at hl 1 rfl) ?_
      have J_51 : ∀ (v_50 : Int32) (ls : Array Slot), lv_has ls 10 [(8, .int (crs x y kx ky)), (7, .int (crs ox oy x y)), (6, .int (crs ox oy kx ky)), (0, .int x), (1, .int y), (2, .int ox), (3, .int oy), (4, .int kx), (5, .int ky)] → v_50 = (if 0 < crs ox oy x y then 1 else (if crs x y kx ky ≤ 0 then 0 else 1)) → W p l e R s m args below meth c H_13 L_14 (0) (0) Q (F0 m 72 ls [.int v_50]) := by
        intro v_50 ls hl ev_50
        have hv : v_50 = bI (ilf x y ox oy kx ky) := by
          subst ev_50
          unfold ilf
          simp only [bI_if, bI_t, bI_f]
          all_goals rw [if_pos c_16, if_neg c_17]
        rw [hQ]
        exact h_zret hx hb hr hlk hsz hw (by simp) (by simp) dX10_isLeft_72 (bI_v hv) ⟨congrArg (fun z => some (Value.int z)) hv, rfl⟩
      refine lv_if_gt (tgt := 67) hx hb dX10_isLeft_59 (by decide) (fun c_48 => ?_) (fun c_48 => ?_)
      · skip
        refine lv_iconst (v := 1) hx hb dX10_isLeft_67 (by decide) ?_
        refine lv_goto (tgt := 72) hx hb dX10_isLeft_68 (by decide) ?_
        exact J_51 1 ls (lv_sub hl [0, 1, 2, 3, 4, 5, 6, 7, 8] rfl) (by rw [if_pos c_48])
      · skip
        refine lv_iload hx hb dX10_isLeft_62 (lv_at hl 0 rfl) ?_
        refine lv_if_le (tgt := 71) hx hb dX10_isLeft_64 (by decide) (fun c_49 => ?_) (fun c_49 => ?_)
        · skip
          refine lv_iconst (v := 0) hx hb dX10_isLeft_71 (by decide) ?_
          exact J_51 0 ls (lv_sub hl [0, 1, 2, 3, 4, 5, 6, 7, 8] rfl) (by rw [if_neg c_48, if_pos c_49])
        · skip
          refine lv_iconst (v := 1) hx hb dX10_isLeft_67 (by decide) ?_
          refine lv_goto (tgt := 72) hx hb dX10_isLeft_68 (by decide) ?_
          exact J_51 1 ls (lv_sub hl [0, 1, 2, 3, 4, 5, 6, 7, 8] rfl) (by rw [if_neg c_48, if_neg c_49])
  · skip
    refine lv_iload hx hb dX10_isLeft_36 (lv_at hl 1 rfl) ?_
    have J_55 : ∀ (v_54 : Int32) (ls : Array Slot), lv_has ls 10 [(8, .int (crs x y kx ky)), (7, .int (crs ox oy x y)), (6, .int (crs ox oy kx ky)), (0, .int x), (1, .int y), (2, .int ox), (3, .int oy), (4, .int kx), (5, .int ky)] → v_54 = (if crs ox oy x y ≤ 0 then 0 else (if crs x y kx ky ≤ 0 then 0 else 1)) → W p l e R s m args below meth c H_13 L_14 (0) (0) Q (F0 m 51 ls [.int v_54]) := by
      intro v_54 ls hl ev_54
      have hv : v_54 = bI (ilf x y ox oy kx ky) := by
        subst ev_54
        unfold ilf
        simp only [bI_if, bI_t, bI_f]
        all_goals rw [if_neg c_16]
      rw [hQ]
      exact h_zret hx hb hr hlk hsz hw (by simp) (by simp) dX10_isLeft_51 (bI_v hv) ⟨congrArg (fun z => some (Value.int z)) hv, rfl⟩
    refine lv_if_le (tgt := 50) hx hb dX10_isLeft_38 (by decide) (fun c_52 => ?_) (fun c_52 => ?_)
    · skip
      refine lv_iconst (v := 0) hx hb dX10_isLeft_50 (by decide) ?_
      exact J_55 0 ls (lv_sub hl [0, 1, 2, 3, 4, 5, 6, 7, 8] rfl) (by rw [if_pos c_52])
    · skip
      refine lv_iload hx hb dX10_isLeft_41 (lv_at hl 0 rfl) ?_
      refine lv_if_le (tgt := 50) hx hb dX10_isLeft_43 (by decide) (fun c_53 => ?_) (fun c_53 => ?_)
      · skip
        refine lv_iconst (v := 0) hx hb dX10_isLeft_50 (by decide) ?_
        exact J_55 0 ls (lv_sub hl [0, 1, 2, 3, 4, 5, 6, 7, 8] rfl) (by rw [if_neg c_52, if_pos c_53])
      · skip
        refine lv_iconst (v := 1) hx hb dX10_isLeft_46 (by decide) ?_
        refine lv_goto (tgt := 51) hx hb dX10_isLeft_47 (by decide) ?_
        exact J_55 1 ls (lv_sub hl [0, 1, 2, 3, 4, 5, 6, 7, 8] rfl) (by rw [if_neg c_52, if_neg c_53])

def mor (x y : Int32) : Int32 := (if x ≤ y then y else x)
set_option maxHeartbeats 4000000 in
set_option maxRecDepth 100000 in
theorem c_X10_more (l : Launch) (D : va_G) (dT : Nat → ClassId) (ah : hA) (sz : Nat) (mo : Nat) (AR : Nat → Nat) (q : Nat → Int32) (g : Nat → Nat → Int32) (hm : moA dT ah mo AR q g) (x y : Int32) : hMet l yX10_more cX10_more 3 (some .int) ({ frames := 0, cells := 0, slots := 0, locals := 0 }) D dT [.ref mo, .int x, .int y] ah sz (fun r ah2 => r = some (.int (mor x y)) ∧ ah = ah2) 0 0 := by
  refine h_met (by decide) (Nat.le_of_ble_eq_true rfl) ?_
  intro p e s m below meth c ls R Q args hav hR hQ hB hl hsz hw
  obtain ⟨hx, hb, hml, hr, hts, hown, hlk, hin, hK⟩ := hB
  have hown : s.vm.findClass RX10 = some m.cls := hown
  have hl : lv_has ls 3 [(0, .ref mo), (1, .int x), (2, .int y)] := hl
  refine lv_iload_n hx hb dX10_more_0 rfl (lv_at hl 1 rfl) ?_
  refine lv_iload_n hx hb dX10_more_1 rfl (lv_at hl 2 rfl) ?_
  have J_3 : ∀ (v_2 : Int32) (ls : Array Slot), lv_has ls 3 [(0, .ref mo), (1, .int x), (2, .int y)] → v_2 = (if x ≤ y then y else x) → W p l e R s m args below meth c s.heap [] (0) (0) Q (F0 m 10 ls [.int v_2]) := by
    intro v_2 ls hl ev_2
    have hv : v_2 = mor x y := by
      subst ev_2
      unfold mor
      all_goals rfl
    rw [hQ]
    exact h_iret hx hb hr hlk hsz hw (by simp) (by simp) dX10_more_10 ⟨congrArg (fun z => some (Value.int z)) hv, rfl⟩
  refine lv_icmp_le (tgt := 9) hx hb dX10_more_2 (by decide) (fun c_1 => ?_) (fun c_1 => ?_)
  · skip
    refine lv_iload_n hx hb dX10_more_9 rfl (lv_at hl 2 rfl) ?_
    exact J_3 y ls (lv_sub hl [0, 1, 2] rfl) (by rw [if_pos c_1])
  · skip
    refine lv_iload_n hx hb dX10_more_5 rfl (lv_at hl 1 rfl) ?_
    refine lv_goto (tgt := 10) hx hb dX10_more_6 (by decide) ?_
    exact J_3 x ls (lv_sub hl [0, 1, 2] rfl) (by rw [if_neg c_1])

def les (x y : Int32) : Int32 := (if y ≤ x then y else x)
set_option maxHeartbeats 4000000 in
set_option maxRecDepth 100000 in
theorem c_X10_less (l : Launch) (D : va_G) (dT : Nat → ClassId) (ah : hA) (sz : Nat) (mo : Nat) (AR : Nat → Nat) (q : Nat → Int32) (g : Nat → Nat → Int32) (hm : moA dT ah mo AR q g) (x y : Int32) : hMet l yX10_less cX10_less 3 (some .int) ({ frames := 0, cells := 0, slots := 0, locals := 0 }) D dT [.ref mo, .int x, .int y] ah sz (fun r ah2 => r = some (.int (les x y)) ∧ ah = ah2) 0 0 := by
  refine h_met (by decide) (Nat.le_of_ble_eq_true rfl) ?_
  intro p e s m below meth c ls R Q args hav hR hQ hB hl hsz hw
  obtain ⟨hx, hb, hml, hr, hts, hown, hlk, hin, hK⟩ := hB
  have hown : s.vm.findClass RX10 = some m.cls := hown
  have hl : lv_has ls 3 [(0, .ref mo), (1, .int x), (2, .int y)] := hl
  refine lv_iload_n hx hb dX10_less_0 rfl (lv_at hl 1 rfl) ?_
  refine lv_iload_n hx hb dX10_less_1 rfl (lv_at hl 2 rfl) ?_
  have J_3 : ∀ (v_2 : Int32) (ls : Array Slot), lv_has ls 3 [(0, .ref mo), (1, .int x), (2, .int y)] → v_2 = (if y ≤ x then y else x) → W p l e R s m args below meth c s.heap [] (0) (0) Q (F0 m 10 ls [.int v_2]) := by
    intro v_2 ls hl ev_2
    have hv : v_2 = les x y := by
      subst ev_2
      unfold les
      all_goals rfl
    rw [hQ]
    exact h_iret hx hb hr hlk hsz hw (by simp) (by simp) dX10_less_10 ⟨congrArg (fun z => some (Value.int z)) hv, rfl⟩
  refine lv_icmp_ge (tgt := 9) hx hb dX10_less_2 (by decide) (fun c_1 => ?_) (fun c_1 => ?_)
  · skip
    refine lv_iload_n hx hb dX10_less_9 rfl (lv_at hl 2 rfl) ?_
    exact J_3 y ls (lv_sub hl [0, 1, 2] rfl) (by rw [if_pos c_1])
  · skip
    refine lv_iload_n hx hb dX10_less_5 rfl (lv_at hl 1 rfl) ?_
    refine lv_goto (tgt := 10) hx hb dX10_less_6 (by decide) ?_
    exact J_3 x ls (lv_sub hl [0, 1, 2] rfl) (by rw [if_neg c_1])

def mSide (X Y : Nat → Int32) (a b : Nat) (x y : Int32) : Int32 := sgn ((((X b).toInt64 - (X a).toInt64) * ((y).toInt64 - (Y a).toInt64)) - (((Y b).toInt64 - (Y a).toInt64) * ((x).toInt64 - (X a).toInt64)))
set_option maxHeartbeats 4000000 in
set_option maxRecDepth 100000 in
theorem c_X10_side (l : Launch) (D : va_G) (dT : Nat → ClassId) (ah : hA) (sz : Nat) (mo : Nat) (AR : Nat → Nat) (q : Nat → Int32) (g : Nat → Nat → Int32) (hm : moA dT ah mo AR q g) (np : Nat) (X Y : Nat → Int32) (hX : moX np g X Y) (a b : Nat) (x y : Int32) (ha : a < np) (hb9 : b < np) : hMet l yX10_side cX10_side 5 (some .int) ({ frames := 1, cells := 0, slots := 0, locals := 21 }) D dT [.ref mo, .int (nI a), .int (nI b), .int x, .int y] ah sz (fun r ah2 => r = some (.int (mSide X Y a b x y)) ∧ ah = ah2) 0 0 := by
  refine h_met (by decide) (Nat.le_of_ble_eq_true rfl) ?_
  intro p e s m below meth c ls R Q args hav hR hQ hB hl hsz hw
  obtain ⟨hx, hb, hml, hr, hts, hown, hlk, hin, hK⟩ := hB
  have hown : s.vm.findClass RX10 = some m.cls := hown
  have hl : lv_has ls 5 [(0, .ref mo), (1, .int (nI a)), (2, .int (nI b)), (3, .int x), (4, .int y)] := hl
  have hnp := hX.1
  refine lv_aload_n hx hb dX10_side_0 rfl (lv_at hl 0 rfl) ?_
  refine h_get (ci := 10) (v := .ref (AR 9)) (C := RX10) (T := TX10) (N := 26) hx hb hts kl_X10 hown hK hw hm.1 rfl 14 (by decide) (hts _ kf_X10_37) rfl rfl dX10_side_1 ?_
  refine lv_iload_n hx hb dX10_side_4 rfl (lv_at hl 2 rfl) ?_
  refine h_iald hx hb hK hw (moA_a (n := 4096) (f := g 9) hm 9 (by decide) rfl rfl) b rfl (by omega) (by omega) dX10_side_5 ?_
  rw [show (g 9) b = X b from (hX.2 _ (by omega)).1]
  refine lv_i2l (v := (X b).toInt64) hx hb dX10_side_6 rfl ?_
  refine lv_aload_n hx hb dX10_side_7 rfl (lv_at hl 0 rfl) ?_
  refine h_get (ci := 10) (v := .ref (AR 9)) (C := RX10) (T := TX10) (N := 26) hx hb hts kl_X10 hown hK hw hm.1 rfl 14 (by decide) (hts _ kf_X10_37) rfl rfl dX10_side_8 ?_
  refine lv_iload_n hx hb dX10_side_11 rfl (lv_at hl 1 rfl) ?_
  refine h_iald hx hb hK hw (moA_a (n := 4096) (f := g 9) hm 9 (by decide) rfl rfl) a rfl (by omega) (by omega) dX10_side_12 ?_
  rw [show (g 9) a = X a from (hX.2 _ (by omega)).1]
  refine lv_i2l (v := (X a).toInt64) hx hb dX10_side_13 rfl ?_
  refine lv_lsub hx hb dX10_side_14 ?_
  refine lv_iload hx hb dX10_side_15 (lv_at hl 4 rfl) ?_
  refine lv_i2l (v := (y).toInt64) hx hb dX10_side_17 rfl ?_
  refine lv_aload_n hx hb dX10_side_18 rfl (lv_at hl 0 rfl) ?_
  refine h_get (ci := 10) (v := .ref (AR 10)) (C := RX10) (T := TX10) (N := 26) hx hb hts kl_X10 hown hK hw hm.1 rfl 15 (by decide) (hts _ kf_X10_40) rfl rfl dX10_side_19 ?_
  refine lv_iload_n hx hb dX10_side_22 rfl (lv_at hl 1 rfl) ?_
  refine h_iald hx hb hK hw (moA_a (n := 4096) (f := g 10) hm 10 (by decide) rfl rfl) a rfl (by omega) (by omega) dX10_side_23 ?_
  rw [show (g 10) a = Y a from (hX.2 _ (by omega)).2]
  refine lv_i2l (v := (Y a).toInt64) hx hb dX10_side_24 rfl ?_
  refine lv_lsub hx hb dX10_side_25 ?_
  refine lv_lmul hx hb dX10_side_26 ?_
  refine lv_aload_n hx hb dX10_side_27 rfl (lv_at hl 0 rfl) ?_
  refine h_get (ci := 10) (v := .ref (AR 10)) (C := RX10) (T := TX10) (N := 26) hx hb hts kl_X10 hown hK hw hm.1 rfl 15 (by decide) (hts _ kf_X10_40) rfl rfl dX10_side_28 ?_
  refine lv_iload_n hx hb dX10_side_31 rfl (lv_at hl 2 rfl) ?_
  refine h_iald hx hb hK hw (moA_a (n := 4096) (f := g 10) hm 10 (by decide) rfl rfl) b rfl (by omega) (by omega) dX10_side_32 ?_
  rw [show (g 10) b = Y b from (hX.2 _ (by omega)).2]
  refine lv_i2l (v := (Y b).toInt64) hx hb dX10_side_33 rfl ?_
  refine lv_aload_n hx hb dX10_side_34 rfl (lv_at hl 0 rfl) ?_
  refine h_get (ci := 10) (v := .ref (AR 10)) (C := RX10) (T := TX10) (N := 26) hx hb hts kl_X10 hown hK hw hm.1 rfl 15 (by decide) (hts _ kf_X10_40) rfl rfl dX10_side_35 ?_
  refine lv_iload_n hx hb dX10_side_38 rfl (lv_at hl 1 rfl) ?_
  refine h_iald hx hb hK hw (moA_a (n := 4096) (f := g 10) hm 10 (by decide) rfl rfl) a rfl (by omega) (by omega) dX10_side_39 ?_
  rw [show (g 10) a = Y a from (hX.2 _ (by omega)).2]
  refine lv_i2l (v := (Y a).toInt64) hx hb dX10_side_40 rfl ?_
  refine lv_lsub hx hb dX10_side_41 ?_
  refine lv_iload_n hx hb dX10_side_42 rfl (lv_at hl 3 rfl) ?_
  refine lv_i2l (v := (x).toInt64) hx hb dX10_side_43 rfl ?_
  refine lv_aload_n hx hb dX10_side_44 rfl (lv_at hl 0 rfl) ?_
  refine h_get (ci := 10) (v := .ref (AR 9)) (C := RX10) (T := TX10) (N := 26) hx hb hts kl_X10 hown hK hw hm.1 rfl 14 (by decide) (hts _ kf_X10_37) rfl rfl dX10_side_45 ?_
  refine lv_iload_n hx hb dX10_side_48 rfl (lv_at hl 1 rfl) ?_
  refine h_iald hx hb hK hw (moA_a (n := 4096) (f := g 9) hm 9 (by decide) rfl rfl) a rfl (by omega) (by omega) dX10_side_49 ?_
  rw [show (g 9) a = X a from (hX.2 _ (by omega)).1]
  refine lv_i2l (v := (X a).toInt64) hx hb dX10_side_50 rfl ?_
  refine lv_lsub hx hb dX10_side_51 ?_
  refine lv_lmul hx hb dX10_side_52 ?_
  refine lv_lsub hx hb dX10_side_53 ?_
  refine h_callS (n := 1) (As := [.long ((((X b).toInt64 - (X a).toInt64) * ((y).toInt64 - (Y a).toInt64)) - (((Y b).toInt64 - (Y a).toInt64) * ((x).toInt64 - (X a).toInt64)))]) (rest := []) ⟨hx, hb, hml, hown, hts⟩ hK hw (c_X10_sign l D dT ah s.heap.size ((((X b).toInt64 - (X a).toInt64) * ((y).toInt64 - (Y a).toInt64)) - (((Y b).toInt64 - (Y a).toInt64) * ((x).toInt64 - (X a).toInt64)))) ko_X10_sign km_X10_92 kt_X10_sign kn_X10 (by decide +kernel) rfl hl.1 rfl (by simp [Value.category]) dX10_side_54 (by rw [hR]; exact ⟨rfl, rfl, Nat.le_of_ble_eq_true rfl, Nat.le_of_ble_eq_true rfl, by simp, by simp⟩) (fun r_1 ah_2 H_3 L_4 st_5 hp hw hst => ?_)
  obtain ⟨rfl, rfl⟩ := hp
  have hst : st_5 = [.int (sgn ((((X b).toInt64 - (X a).toInt64) * ((y).toInt64 - (Y a).toInt64)) - (((Y b).toInt64 - (Y a).toInt64) * ((x).toInt64 - (X a).toInt64))))] := hst
  subst hst
  have hv : sgn ((((X b).toInt64 - (X a).toInt64) * ((y).toInt64 - (Y a).toInt64)) - (((Y b).toInt64 - (Y a).toInt64) * ((x).toInt64 - (X a).toInt64))) = mSide X Y a b x y := by
    unfold mSide
    all_goals rfl
  rw [hQ]
  exact h_iret hx hb hr hlk hsz hw (by simp) (by simp) dX10_side_57 ⟨congrArg (fun z => some (Value.int z)) hv, rfl⟩

def mOn (X Y : Nat → Int32) (x y : Int32) (a : Nat) : Bool := (if mSide X Y a (a + 1) x y = 0 then (if btw x (X a) (X (a + 1)) = false then false else (if btw y (Y a) (Y (a + 1)) = false then false else true)) else false)
set_option maxHeartbeats 4000000 in
set_option maxRecDepth 100000 in
theorem c_X10_isOn (l : Launch) (D : va_G) (dT : Nat → ClassId) (ah : hA) (sz : Nat) (mo : Nat) (AR : Nat → Nat) (q : Nat → Int32) (g : Nat → Nat → Int32) (hm : moA dT ah mo AR q g) (np : Nat) (X Y : Nat → Int32) (hX : moX np g X Y) (x y : Int32) (a : Nat) (ha : a + 1 < np) : hMet l yX10_isOn cX10_isOn 4 (some .boolean) ({ frames := 2, cells := 0, slots := 0, locals := 45 }) D dT [.ref mo, .int x, .int y, .int (nI a)] ah sz (fun r ah2 => r = some (.int (bI (mOn X Y x y a))) ∧ ah = ah2) 0 0 := by
  refine h_met (by decide) (Nat.le_of_ble_eq_true rfl) ?_
  intro p e s m below meth c ls R Q args hav hR hQ hB hl hsz hw
  obtain ⟨hx, hb, hml, hr, hts, hown, hlk, hin, hK⟩ := hB
  have hown : s.vm.findClass RX10 = some m.cls := hown
  have hl : lv_has ls 4 [(0, .ref mo), (1, .int x), (2, .int y), (3, .int (nI a))] := hl
  have hnp := hX.1
  refine lv_aload_n hx hb dX10_isOn_0 rfl (lv_at hl 0 rfl) ?_
  refine lv_iload_n hx hb dX10_isOn_1 rfl (lv_at hl 3 rfl) ?_
  refine lv_iload_n hx hb dX10_isOn_2 rfl (lv_at hl 3 rfl) ?_
  refine lv_iconst (v := 1) hx hb dX10_isOn_3 (by decide) ?_
  refine lv_iadd hx hb dX10_isOn_4 ?_
  refine lv_topi (fun t_1 et_1 => ?_)
  obtain rfl : t_1 = nI (a + 1) := et_1.trans (nI_c _ 1)
  refine lv_iload_n hx hb dX10_isOn_5 rfl (lv_at hl 1 rfl) ?_
  refine lv_iload_n hx hb dX10_isOn_6 rfl (lv_at hl 2 rfl) ?_
  refine h_callV (n := 4) (ci := 10) (b := mo) (As := [.int (nI a), .int (nI (a + 1)), .int x, .int y]) (rest := []) ⟨hx, hb, hml, hown, hts⟩ hK hw (c_X10_side l D dT ah s.heap.size mo AR q g hm np X Y hX a (a + 1) x y (by omega) (by omega)) ko_X10_side km_X10_96 ki_X10_side ks_X10_side kn_X10 (by decide +kernel) rfl hm.1 rfl hl.1 rfl (by simp [Value.category]) dX10_isOn_7 (by rw [hR]; exact ⟨rfl, rfl, Nat.le_of_ble_eq_true rfl, Nat.le_of_ble_eq_true rfl, by simp, by simp⟩) (fun r_2 ah_3 H_4 L_5 st_6 hp hw hst => ?_)
  obtain ⟨rfl, rfl⟩ := hp
  have hst : st_6 = [.int (mSide X Y a (a + 1) x y)] := hst
  subst hst
  refine lv_if_ne (tgt := 59) hx hb dX10_isOn_10 (by decide) (fun c_7 => ?_) (fun c_7 => ?_)
  · skip
    refine lv_iconst (v := 0) hx hb dX10_isOn_59 (by decide) ?_
    have hv : 0 = bI (mOn X Y x y a) := by
      unfold mOn
      simp only [bI_if, bI_t, bI_f]
      all_goals rw [if_neg c_7]
    rw [hQ]
    exact h_zret hx hb hr hlk hsz hw (by simp) (by simp) dX10_isOn_60 (bI_v hv) ⟨congrArg (fun z => some (Value.int z)) hv, rfl⟩
  · skip
    refine lv_iload_n hx hb dX10_isOn_13 rfl (lv_at hl 1 rfl) ?_
    refine lv_aload_n hx hb dX10_isOn_14 rfl (lv_at hl 0 rfl) ?_
    refine h_get (ci := 10) (v := .ref (AR 9)) (C := RX10) (T := TX10) (N := 26) hx hb hts kl_X10 hown hK hw hm.1 rfl 14 (by decide) (hts _ kf_X10_37) rfl rfl dX10_isOn_15 ?_
    refine lv_iload_n hx hb dX10_isOn_18 rfl (lv_at hl 3 rfl) ?_
    refine h_iald hx hb hK hw (moA_a (n := 4096) (f := g 9) hm 9 (by decide) rfl rfl) a rfl (by omega) (by omega) dX10_isOn_19 ?_
    rw [show (g 9) a = X a from (hX.2 _ (by omega)).1]
    refine lv_aload_n hx hb dX10_isOn_20 rfl (lv_at hl 0 rfl) ?_
    refine h_get (ci := 10) (v := .ref (AR 9)) (C := RX10) (T := TX10) (N := 26) hx hb hts kl_X10 hown hK hw hm.1 rfl 14 (by decide) (hts _ kf_X10_37) rfl rfl dX10_isOn_21 ?_
    refine lv_iload_n hx hb dX10_isOn_24 rfl (lv_at hl 3 rfl) ?_
    refine lv_iconst (v := 1) hx hb dX10_isOn_25 (by decide) ?_
    refine lv_iadd hx hb dX10_isOn_26 ?_
    refine lv_topi (fun t_8 et_8 => ?_)
    obtain rfl : t_8 = nI (a + 1) := et_8.trans (nI_c _ 1)
    refine h_iald hx hb hK hw (moA_a (n := 4096) (f := g 9) hm 9 (by decide) rfl rfl) (a + 1) rfl (by omega) (by omega) dX10_isOn_27 ?_
    rw [show (g 9) (a + 1) = X (a + 1) from (hX.2 _ (by omega)).1]
    refine h_callS (n := 3) (As := [.int x, .int (X a), .int (X (a + 1))]) (rest := []) ⟨hx, hb, hml, hown, hts⟩ hK hw (c_X10_between l D dT ah H_4.size x (X a) (X (a + 1))) ko_X10_between km_X10_100 kt_X10_between kn_X10 (by decide +kernel) rfl hl.1 rfl (by simp [Value.category]) dX10_isOn_28 (by rw [hR]; exact ⟨rfl, rfl, Nat.le_of_ble_eq_true rfl, Nat.le_of_ble_eq_true rfl, by simp, by simp⟩) (fun r_9 ah_10 H_11 L_12 st_13 hp hw hst => ?_)
    obtain ⟨rfl, rfl⟩ := hp
    have hst : st_13 = [.int (bI (btw x (X a) (X (a + 1))))] := hst
    subst hst
    refine lv_if_eq (tgt := 59) hx hb dX10_isOn_31 (by decide) (fun c_14 => ?_) (fun c_14 => ?_)
    · skip
      have c_14 : btw x (X a) (X (a + 1)) = false := bI_0.mp c_14
      refine lv_iconst (v := 0) hx hb dX10_isOn_59 (by decide) ?_
      have hv : 0 = bI (mOn X Y x y a) := by
        unfold mOn
        simp only [bI_if, bI_t, bI_f]
        all_goals rw [if_pos c_7, if_pos c_14]
      rw [hQ]
      exact h_zret hx hb hr hlk hsz hw (by simp) (by simp) dX10_isOn_60 (bI_v hv) ⟨congrArg (fun z => some (Value.int z)) hv, rfl⟩
    · skip
      have c_14 : ¬ (btw x (X a) (X (a + 1)) = false) := (not_congr bI_0).mp c_14
      refine lv_iload_n hx hb dX10_isOn_34 rfl (lv_at hl 2 rfl) ?_
      refine lv_aload_n hx hb dX10_isOn_35 rfl (lv_at hl 0 rfl) ?_
      refine h_get (ci := 10) (v := .ref (AR 10)) (C := RX10) (T := TX10) (N := 26) hx hb hts kl_X10 hown hK hw hm.1 rfl 15 (by decide) (hts _ kf_X10_40) rfl rfl dX10_isOn_36 ?_
      refine lv_iload_n hx hb dX10_isOn_39 rfl (lv_at hl 3 rfl) ?_
      refine h_iald hx hb hK hw (moA_a (n := 4096) (f := g 10) hm 10 (by decide) rfl rfl) a rfl (by omega) (by omega) dX10_isOn_40 ?_
      rw [show (g 10) a = Y a from (hX.2 _ (by omega)).2]
      refine lv_aload_n hx hb dX10_isOn_41 rfl (lv_at hl 0 rfl) ?_
      refine h_get (ci := 10) (v := .ref (AR 10)) (C := RX10) (T := TX10) (N := 26) hx hb hts kl_X10 hown hK hw hm.1 rfl 15 (by decide) (hts _ kf_X10_40) rfl rfl dX10_isOn_42 ?_
      refine lv_iload_n hx hb dX10_isOn_45 rfl (lv_at hl 3 rfl) ?_
      refine lv_iconst (v := 1) hx hb dX10_isOn_46 (by decide) ?_
      refine lv_iadd hx hb dX10_isOn_47 ?_
      refine lv_topi (fun t_15 et_15 => ?_)
      obtain rfl : t_15 = nI (a + 1) := et_15.trans (nI_c _ 1)
      refine h_iald hx hb hK hw (moA_a (n := 4096) (f := g 10) hm 10 (by decide) rfl rfl) (a + 1) rfl (by omega) (by omega) dX10_isOn_48 ?_
      rw [show (g 10) (a + 1) = Y (a + 1) from (hX.2 _ (by omega)).2]
      refine h_callS (n := 3) (As := [.int y, .int (Y a), .int (Y (a + 1))]) (rest := []) ⟨hx, hb, hml, hown, hts⟩ hK hw (c_X10_between l D dT ah H_11.size y (Y a) (Y (a + 1))) ko_X10_between km_X10_100 kt_X10_between kn_X10 (by decide +kernel) rfl hl.1 rfl (by simp [Value.category]) dX10_isOn_49 (by rw [hR]; exact ⟨rfl, rfl, Nat.le_of_ble_eq_true rfl, Nat.le_of_ble_eq_true rfl, by simp, by simp⟩) (fun r_16 ah_17 H_18 L_19 st_20 hp hw hst => ?_)
      obtain ⟨rfl, rfl⟩ := hp
      have hst : st_20 = [.int (bI (btw y (Y a) (Y (a + 1))))] := hst
      subst hst
      have J_23 : ∀ (v_22 : Int32) (ls : Array Slot), lv_has ls 4 [(0, .ref mo), (1, .int x), (2, .int y), (3, .int (nI a))] → v_22 = (if btw y (Y a) (Y (a + 1)) = false then 0 else 1) → W p l e R s m args below meth c H_18 L_19 (0 + 0 + 0 + 0) (0 + 0 + 0 + 0) Q (F0 m 60 ls [.int v_22]) := by
        intro v_22 ls hl ev_22
        have hv : v_22 = bI (mOn X Y x y a) := by
          subst ev_22
          unfold mOn
          simp only [bI_if, bI_t, bI_f]
          all_goals rw [if_pos c_7, if_neg c_14]
        rw [hQ]
        exact h_zret hx hb hr hlk hsz hw (by simp) (by simp) dX10_isOn_60 (bI_v hv) ⟨congrArg (fun z => some (Value.int z)) hv, rfl⟩
      refine lv_if_eq (tgt := 59) hx hb dX10_isOn_52 (by decide) (fun c_21 => ?_) (fun c_21 => ?_)
      · skip
        have c_21 : btw y (Y a) (Y (a + 1)) = false := bI_0.mp c_21
        refine lv_iconst (v := 0) hx hb dX10_isOn_59 (by decide) ?_
        exact J_23 0 ls (lv_sub hl [0, 1, 2, 3] rfl) (by rw [if_pos c_21])
      · skip
        have c_21 : ¬ (btw y (Y a) (Y (a + 1)) = false) := (not_congr bI_0).mp c_21
        refine lv_iconst (v := 1) hx hb dX10_isOn_55 (by decide) ?_
        refine lv_goto (tgt := 60) hx hb dX10_isOn_56 (by decide) ?_
        exact J_23 1 ls (lv_sub hl [0, 1, 2, 3] rfl) (by rw [if_neg c_21])

set_option maxHeartbeats 4000000 in
set_option maxRecDepth 100000 in
theorem c_X10_same (l : Launch) (D : va_G) (dT : Nat → ClassId) (ah : hA) (sz : Nat) (mo : Nat) (AR : Nat → Nat) (q : Nat → Int32) (g : Nat → Nat → Int32) (hm : moA dT ah mo AR q g) (np : Nat) (X Y : Nat → Int32) (hX : moX np g X Y) (a b : Nat) (ha : a < np) (hb9 : b < np) : hMet l yX10_same cX10_same 3 (some .boolean) ({ frames := 0, cells := 0, slots := 0, locals := 0 }) D dT [.ref mo, .int (nI a), .int (nI b)] ah sz (fun r ah2 => r = some (.int (bI (smP X Y a b))) ∧ ah = ah2) 0 0 := by
  refine h_met (by decide) (Nat.le_of_ble_eq_true rfl) ?_
  intro p e s m below meth c ls R Q args hav hR hQ hB hl hsz hw
  obtain ⟨hx, hb, hml, hr, hts, hown, hlk, hin, hK⟩ := hB
  have hown : s.vm.findClass RX10 = some m.cls := hown
  have hl : lv_has ls 3 [(0, .ref mo), (1, .int (nI a)), (2, .int (nI b))] := hl
  have hnp := hX.1
  refine lv_aload_n hx hb dX10_same_0 rfl (lv_at hl 0 rfl) ?_
  refine h_get (ci := 10) (v := .ref (AR 9)) (C := RX10) (T := TX10) (N := 26) hx hb hts kl_X10 hown hK hw hm.1 rfl 14 (by decide) (hts _ kf_X10_37) rfl rfl dX10_same_1 ?_
  refine lv_iload_n hx hb dX10_same_4 rfl (lv_at hl 1 rfl) ?_
  refine h_iald hx hb hK hw (moA_a (n := 4096) (f := g 9) hm 9 (by decide) rfl rfl) a rfl (by omega) (by omega) dX10_same_5 ?_
  rw [show (g 9) a = X a from (hX.2 _ (by omega)).1]
  refine lv_aload_n hx hb dX10_same_6 rfl (lv_at hl 0 rfl) ?_
  refine h_get (ci := 10) (v := .ref (AR 9)) (C := RX10) (T := TX10) (N := 26) hx hb hts kl_X10 hown hK hw hm.1 rfl 14 (by decide) (hts _ kf_X10_37) rfl rfl dX10_same_7 ?_
  refine lv_iload_n hx hb dX10_same_10 rfl (lv_at hl 2 rfl) ?_
  refine h_iald hx hb hK hw (moA_a (n := 4096) (f := g 9) hm 9 (by decide) rfl rfl) b rfl (by omega) (by omega) dX10_same_11 ?_
  rw [show (g 9) b = X b from (hX.2 _ (by omega)).1]
  refine lv_icmp_ne (tgt := 34) hx hb dX10_same_12 (by decide) (fun c_1 => ?_) (fun c_1 => ?_)
  · skip
    refine lv_iconst (v := 0) hx hb dX10_same_34 (by decide) ?_
    rw [hQ]
    exact h_zret hx hb hr hlk hsz hw (by simp) (by simp) dX10_same_35 (by decide) ⟨congrArg (fun z => some (Value.int (bI z))) (a₁ := false) (by unfold smP; rw [if_neg c_1]), rfl⟩
  · skip
    refine lv_aload_n hx hb dX10_same_15 rfl (lv_at hl 0 rfl) ?_
    refine h_get (ci := 10) (v := .ref (AR 10)) (C := RX10) (T := TX10) (N := 26) hx hb hts kl_X10 hown hK hw hm.1 rfl 15 (by decide) (hts _ kf_X10_40) rfl rfl dX10_same_16 ?_
    refine lv_iload_n hx hb dX10_same_19 rfl (lv_at hl 1 rfl) ?_
    refine h_iald hx hb hK hw (moA_a (n := 4096) (f := g 10) hm 10 (by decide) rfl rfl) a rfl (by omega) (by omega) dX10_same_20 ?_
    rw [show (g 10) a = Y a from (hX.2 _ (by omega)).2]
    refine lv_aload_n hx hb dX10_same_21 rfl (lv_at hl 0 rfl) ?_
    refine h_get (ci := 10) (v := .ref (AR 10)) (C := RX10) (T := TX10) (N := 26) hx hb hts kl_X10 hown hK hw hm.1 rfl 15 (by decide) (hts _ kf_X10_40) rfl rfl dX10_same_22 ?_
    refine lv_iload_n hx hb dX10_same_25 rfl (lv_at hl 2 rfl) ?_
    refine h_iald hx hb hK hw (moA_a (n := 4096) (f := g 10) hm 10 (by decide) rfl rfl) b rfl (by omega) (by omega) dX10_same_26 ?_
    rw [show (g 10) b = Y b from (hX.2 _ (by omega)).2]
    refine lv_icmp_ne (tgt := 34) hx hb dX10_same_27 (by decide) (fun c_2 => ?_) (fun c_2 => ?_)
    · skip
      refine lv_iconst (v := 0) hx hb dX10_same_34 (by decide) ?_
      rw [hQ]
      exact h_zret hx hb hr hlk hsz hw (by simp) (by simp) dX10_same_35 (by decide) ⟨congrArg (fun z => some (Value.int (bI z))) (a₁ := false) (by unfold smP; rw [if_pos c_1, if_neg c_2]), rfl⟩
    · skip
      refine lv_iconst (v := 1) hx hb dX10_same_30 (by decide) ?_
      refine lv_goto (tgt := 35) hx hb dX10_same_31 (by decide) ?_
      rw [hQ]
      exact h_zret hx hb hr hlk hsz hw (by simp) (by simp) dX10_same_35 (by decide) ⟨congrArg (fun z => some (Value.int (bI z))) (a₁ := true) (by unfold smP; rw [if_pos c_1, if_pos c_2]), rfl⟩

def mSeg (X Y : Nat → Int32) (a : Nat) : Bool := (if smP X Y a (a + 1) = false then true else false)
set_option maxHeartbeats 4000000 in
set_option maxRecDepth 100000 in
theorem c_X10_isSegment (l : Launch) (D : va_G) (dT : Nat → ClassId) (ah : hA) (sz : Nat) (mo : Nat) (AR : Nat → Nat) (q : Nat → Int32) (g : Nat → Nat → Int32) (hm : moA dT ah mo AR q g) (np : Nat) (X Y : Nat → Int32) (hX : moX np g X Y) (a : Nat) (ha : a + 1 < np) : hMet l yX10_isSegment cX10_isSegment 2 (some .boolean) ({ frames := 1, cells := 0, slots := 0, locals := 22 }) D dT [.ref mo, .int (nI a)] ah sz (fun r ah2 => r = some (.int (bI (mSeg X Y a))) ∧ ah = ah2) 0 0 := by
  refine h_met (by decide) (Nat.le_of_ble_eq_true rfl) ?_
  intro p e s m below meth c ls R Q args hav hR hQ hB hl hsz hw
  obtain ⟨hx, hb, hml, hr, hts, hown, hlk, hin, hK⟩ := hB
  have hown : s.vm.findClass RX10 = some m.cls := hown
  have hl : lv_has ls 2 [(0, .ref mo), (1, .int (nI a))] := hl
  have hnp := hX.1
  refine lv_aload_n hx hb dX10_isSegment_0 rfl (lv_at hl 0 rfl) ?_
  refine lv_iload_n hx hb dX10_isSegment_1 rfl (lv_at hl 1 rfl) ?_
  refine lv_iload_n hx hb dX10_isSegment_2 rfl (lv_at hl 1 rfl) ?_
  refine lv_iconst (v := 1) hx hb dX10_isSegment_3 (by decide) ?_
  refine lv_iadd hx hb dX10_isSegment_4 ?_
  refine lv_topi (fun t_1 et_1 => ?_)
  obtain rfl : t_1 = nI (a + 1) := et_1.trans (nI_c _ 1)
  refine h_callV (n := 2) (ci := 10) (b := mo) (As := [.int (nI a), .int (nI (a + 1))]) (rest := []) ⟨hx, hb, hml, hown, hts⟩ hK hw (c_X10_same l D dT ah s.heap.size mo AR q g hm np X Y hX a (a + 1) (by omega) (by omega)) ko_X10_same km_X10_103 ki_X10_same ks_X10_same kn_X10 (by decide +kernel) rfl hm.1 rfl hl.1 rfl (by simp [Value.category]) dX10_isSegment_5 (by rw [hR]; exact ⟨rfl, rfl, Nat.le_of_ble_eq_true rfl, Nat.le_of_ble_eq_true rfl, by simp, by simp⟩) (fun r_2 ah_3 H_4 L_5 st_6 hp hw hst => ?_)
  obtain ⟨rfl, rfl⟩ := hp
  have hst : st_6 = [.int (bI (smP X Y a (a + 1)))] := hst
  subst hst
  have J_9 : ∀ (v_8 : Int32) (ls : Array Slot), lv_has ls 2 [(0, .ref mo), (1, .int (nI a))] → v_8 = (if smP X Y a (a + 1) = false then 1 else 0) → W p l e R s m args below meth c H_4 L_5 (0 + 0) (0 + 0) Q (F0 m 16 ls [.int v_8]) := by
    intro v_8 ls hl ev_8
    have hv : v_8 = bI (mSeg X Y a) := by
      subst ev_8
      unfold mSeg
      simp only [bI_if, bI_t, bI_f]
      all_goals rfl
    rw [hQ]
    exact h_zret hx hb hr hlk hsz hw (by simp) (by simp) dX10_isSegment_16 (bI_v hv) ⟨congrArg (fun z => some (Value.int z)) hv, rfl⟩
  refine lv_if_ne (tgt := 15) hx hb dX10_isSegment_8 (by decide) (fun c_7 => ?_) (fun c_7 => ?_)
  · skip
    have c_7 : ¬ (smP X Y a (a + 1) = false) := (not_congr bI_0).mp c_7
    refine lv_iconst (v := 0) hx hb dX10_isSegment_15 (by decide) ?_
    exact J_9 0 ls (lv_sub hl [0, 1] rfl) (by rw [if_neg c_7])
  · skip
    have c_7 : smP X Y a (a + 1) = false := bI_0.mp c_7
    refine lv_iconst (v := 1) hx hb dX10_isSegment_11 (by decide) ?_
    refine lv_goto (tgt := 16) hx hb dX10_isSegment_12 (by decide) ?_
    exact J_9 1 ls (lv_sub hl [0, 1] rfl) (by rw [if_pos c_7])

set_option maxHeartbeats 4000000 in
set_option maxRecDepth 100000 in
theorem c_X10_end (l : Launch) (D : va_G) (dT : Nat → ClassId) (ah : hA) (sz : Nat) (mo : Nat) (AR : Nat → Nat) (q : Nat → Int32) (g : Nat → Nat → Int32) (hm : moA dT ah mo AR q g) (np : Nat) (X Y : Nat → Int32) (hX : moX np g X Y) (nr : Nat) (RP RN : Nat → Nat) (hRg : moR np nr g RP RN) (r9 : Nat) (hr9 : r9 < nr) : hMet l yX10_end cX10_end 2 (some .int) ({ frames := 0, cells := 0, slots := 0, locals := 0 }) D dT [.ref mo, .int (nI r9)] ah sz (fun r ah2 => r = some (.int (nI (RP r9 + RN r9) - 1)) ∧ ah = ah2) 0 0 := by
  refine h_met (by decide) (Nat.le_of_ble_eq_true rfl) ?_
  intro p e s m below meth c ls R Q args hav hR hQ hB hl hsz hw
  obtain ⟨hx, hb, hml, hr, hts, hown, hlk, hin, hK⟩ := hB
  have hown : s.vm.findClass RX10 = some m.cls := hown
  have hl : lv_has ls 2 [(0, .ref mo), (1, .int (nI r9))] := hl
  have hnr := hRg.1
  refine lv_aload_n hx hb dX10_end_0 rfl (lv_at hl 0 rfl) ?_
  refine h_get (ci := 10) (v := .ref (AR 7)) (C := RX10) (T := TX10) (N := 26) hx hb hts kl_X10 hown hK hw hm.1 rfl 12 (by decide) (hts _ kf_X10_31) rfl rfl dX10_end_1 ?_
  refine lv_iload_n hx hb dX10_end_4 rfl (lv_at hl 1 rfl) ?_
  refine h_iald hx hb hK hw (moA_a (n := 4096) (f := g 7) hm 7 (by decide) rfl rfl) r9 rfl (by omega) (by omega) dX10_end_5 ?_
  rw [show (g 7) r9 = nI (RP r9) from (hRg.2 _ (by omega)).1]
  refine lv_aload_n hx hb dX10_end_6 rfl (lv_at hl 0 rfl) ?_
  refine h_get (ci := 10) (v := .ref (AR 8)) (C := RX10) (T := TX10) (N := 26) hx hb hts kl_X10 hown hK hw hm.1 rfl 13 (by decide) (hts _ kf_X10_34) rfl rfl dX10_end_7 ?_
  refine lv_iload_n hx hb dX10_end_10 rfl (lv_at hl 1 rfl) ?_
  refine h_iald hx hb hK hw (moA_a (n := 4096) (f := g 8) hm 8 (by decide) rfl rfl) r9 rfl (by omega) (by omega) dX10_end_11 ?_
  rw [show (g 8) r9 = nI (RN r9) from (hRg.2 _ (by omega)).2.1]
  refine lv_iadd hx hb dX10_end_12 ?_
  refine lv_topi (fun t_1 et_1 => ?_)
  obtain rfl : t_1 = nI (RP r9 + RN r9) := et_1.trans (nI_add _ _)
  refine lv_iconst (v := 1) hx hb dX10_end_13 (by decide) ?_
  refine lv_isub hx hb dX10_end_14 ?_
  rw [hQ]
  exact h_iret hx hb hr hlk hsz hw (by simp) (by simp) dX10_end_15 ⟨rfl, rfl⟩

set_option maxHeartbeats 4000000 in
set_option maxRecDepth 100000 in
theorem c_X10_begins (l : Launch) (D : va_G) (dT : Nat → ClassId) (ah : hA) (sz : Nat) (mo : Nat) (AR : Nat → Nat) (q : Nat → Int32) (g : Nat → Nat → Int32) (hm : moA dT ah mo AR q g) (np : Nat) (X Y : Nat → Int32) (hX : moX np g X Y) (a : Nat) (ha : a < np) : hMet l yX10_begins cX10_begins 2 (some .boolean) ({ frames := 0, cells := 0, slots := 0, locals := 0 }) D dT [.ref mo, .int (nI a)] ah sz (fun r ah2 => r = some (.int (bI (mBeg X Y (q 6) (q 7) a))) ∧ ah = ah2) 0 0 := by
  refine h_met (by decide) (Nat.le_of_ble_eq_true rfl) ?_
  intro p e s m below meth c ls R Q args hav hR hQ hB hl hsz hw
  obtain ⟨hx, hb, hml, hr, hts, hown, hlk, hin, hK⟩ := hB
  have hown : s.vm.findClass RX10 = some m.cls := hown
  have hl : lv_has ls 2 [(0, .ref mo), (1, .int (nI a))] := hl
  have hnp := hX.1
  refine lv_aload_n hx hb dX10_begins_0 rfl (lv_at hl 0 rfl) ?_
  refine h_get (ci := 10) (v := .ref (AR 9)) (C := RX10) (T := TX10) (N := 26) hx hb hts kl_X10 hown hK hw hm.1 rfl 14 (by decide) (hts _ kf_X10_37) rfl rfl dX10_begins_1 ?_
  refine lv_iload_n hx hb dX10_begins_4 rfl (lv_at hl 1 rfl) ?_
  refine h_iald hx hb hK hw (moA_a (n := 4096) (f := g 9) hm 9 (by decide) rfl rfl) a rfl (by omega) (by omega) dX10_begins_5 ?_
  rw [show (g 9) a = X a from (hX.2 _ (by omega)).1]
  refine lv_aload_n hx hb dX10_begins_6 rfl (lv_at hl 0 rfl) ?_
  refine h_get (ci := 10) (v := .int (q 6)) (C := RX10) (T := TX10) (N := 26) hx hb hts kl_X10 hown hK hw hm.1 rfl 19 (by decide) (hts _ kf_X10_114) rfl rfl dX10_begins_7 ?_
  refine lv_icmp_ne (tgt := 30) hx hb dX10_begins_10 (by decide) (fun c_1 => ?_) (fun c_1 => ?_)
  · skip
    refine lv_iconst (v := 0) hx hb dX10_begins_30 (by decide) ?_
    rw [hQ]
    exact h_zret hx hb hr hlk hsz hw (by simp) (by simp) dX10_begins_31 (by decide) ⟨congrArg (fun z => some (Value.int (bI z))) (a₁ := false) (by unfold mBeg; rw [if_neg c_1]), rfl⟩
  · skip
    refine lv_aload_n hx hb dX10_begins_13 rfl (lv_at hl 0 rfl) ?_
    refine h_get (ci := 10) (v := .ref (AR 10)) (C := RX10) (T := TX10) (N := 26) hx hb hts kl_X10 hown hK hw hm.1 rfl 15 (by decide) (hts _ kf_X10_40) rfl rfl dX10_begins_14 ?_
    refine lv_iload_n hx hb dX10_begins_17 rfl (lv_at hl 1 rfl) ?_
    refine h_iald hx hb hK hw (moA_a (n := 4096) (f := g 10) hm 10 (by decide) rfl rfl) a rfl (by omega) (by omega) dX10_begins_18 ?_
    rw [show (g 10) a = Y a from (hX.2 _ (by omega)).2]
    refine lv_aload_n hx hb dX10_begins_19 rfl (lv_at hl 0 rfl) ?_
    refine h_get (ci := 10) (v := .int (q 7)) (C := RX10) (T := TX10) (N := 26) hx hb hts kl_X10 hown hK hw hm.1 rfl 20 (by decide) (hts _ kf_X10_117) rfl rfl dX10_begins_20 ?_
    refine lv_icmp_ne (tgt := 30) hx hb dX10_begins_23 (by decide) (fun c_2 => ?_) (fun c_2 => ?_)
    · skip
      refine lv_iconst (v := 0) hx hb dX10_begins_30 (by decide) ?_
      rw [hQ]
      exact h_zret hx hb hr hlk hsz hw (by simp) (by simp) dX10_begins_31 (by decide) ⟨congrArg (fun z => some (Value.int (bI z))) (a₁ := false) (by unfold mBeg; rw [if_pos c_1, if_neg c_2]), rfl⟩
    · skip
      refine lv_iconst (v := 1) hx hb dX10_begins_26 (by decide) ?_
      refine lv_goto (tgt := 31) hx hb dX10_begins_27 (by decide) ?_
      rw [hQ]
      exact h_zret hx hb hr hlk hsz hw (by simp) (by simp) dX10_begins_31 (by decide) ⟨congrArg (fun z => some (Value.int (bI z))) (a₁ := true) (by unfold mBeg; rw [if_pos c_1, if_pos c_2]), rfl⟩

def mAlong (X Y : Nat → Int32) (a b : Nat) : Int32 × Int32 × Int32 := (if les (mor (X a) (X (a + 1))) (mor (X b) (X (b + 1))) < mor (les (X a) (X (a + 1))) (les (X b) (X (b + 1))) then (0, mor (les (X a) (X (a + 1))) (les (X b) (X (b + 1))), mor (les (Y a) (Y (a + 1))) (les (Y b) (Y (b + 1)))) else (if mor (les (Y a) (Y (a + 1))) (les (Y b) (Y (b + 1))) ≤ les (mor (Y a) (Y (a + 1))) (mor (Y b) (Y (b + 1))) then (if mor (les (X a) (X (a + 1))) (les (X b) (X (b + 1))) = les (mor (X a) (X (a + 1))) (mor (X b) (X (b + 1))) then (if mor (les (Y a) (Y (a + 1))) (les (Y b) (Y (b + 1))) = les (mor (Y a) (Y (a + 1))) (mor (Y b) (Y (b + 1))) then (1, mor (les (X a) (X (a + 1))) (les (X b) (X (b + 1))), mor (les (Y a) (Y (a + 1))) (les (Y b) (Y (b + 1)))) else (2, mor (les (X a) (X (a + 1))) (les (X b) (X (b + 1))), mor (les (Y a) (Y (a + 1))) (les (Y b) (Y (b + 1))))) else (2, mor (les (X a) (X (a + 1))) (les (X b) (X (b + 1))), mor (les (Y a) (Y (a + 1))) (les (Y b) (Y (b + 1))))) else (0, mor (les (X a) (X (a + 1))) (les (X b) (X (b + 1))), mor (les (Y a) (Y (a + 1))) (les (Y b) (Y (b + 1))))))
set_option maxHeartbeats 4000000 in
set_option maxRecDepth 100000 in
theorem c_X10_along (l : Launch) (D : va_G) (dT : Nat → ClassId) (ah : hA) (sz : Nat) (mo : Nat) (AR : Nat → Nat) (q : Nat → Int32) (g : Nat → Nat → Int32) (hm : moA dT ah mo AR q g) (np : Nat) (X Y : Nat → Int32) (hX : moX np g X Y) (a b : Nat) (ha : a + 1 < np) (hb9 : b + 1 < np) : hMet l yX10_along cX10_along 7 (some .int) ({ frames := 1, cells := 0, slots := 0, locals := 22 }) D dT [.ref mo, .int (nI a), .int (nI b)] ah sz (fun r ah2 => r = some (.int (mAlong X Y a b).1) ∧ ah2 = hup ah mo (.inr (10, moF (upd (upd q 6 (mAlong X Y a b).2.1) 7 (mAlong X Y a b).2.2) AR))) 0 0 := by
  refine h_met (by decide) (Nat.le_of_ble_eq_true rfl) ?_
  intro p e s m below meth c ls R Q args hav hR hQ hB hl hsz hw
  obtain ⟨hx, hb, hml, hr, hts, hown, hlk, hin, hK⟩ := hB
  have hown : s.vm.findClass RX10 = some m.cls := hown
  have hl : lv_has ls 7 [(0, .ref mo), (1, .int (nI a)), (2, .int (nI b))] := hl
  have hnp := hX.1
  refine lv_aload_n hx hb dX10_along_0 rfl (lv_at hl 0 rfl) ?_
  refine lv_aload_n hx hb dX10_along_1 rfl (lv_at hl 0 rfl) ?_
  refine lv_aload_n hx hb dX10_along_2 rfl (lv_at hl 0 rfl) ?_
  refine h_get (ci := 10) (v := .ref (AR 9)) (C := RX10) (T := TX10) (N := 26) hx hb hts kl_X10 hown hK hw hm.1 rfl 14 (by decide) (hts _ kf_X10_37) rfl rfl dX10_along_3 ?_
  refine lv_iload_n hx hb dX10_along_6 rfl (lv_at hl 1 rfl) ?_
  refine h_iald hx hb hK hw (moA_a (n := 4096) (f := g 9) hm 9 (by decide) rfl rfl) a rfl (by omega) (by omega) dX10_along_7 ?_
  rw [show (g 9) a = X a from (hX.2 _ (by omega)).1]
  refine lv_aload_n hx hb dX10_along_8 rfl (lv_at hl 0 rfl) ?_
  refine h_get (ci := 10) (v := .ref (AR 9)) (C := RX10) (T := TX10) (N := 26) hx hb hts kl_X10 hown hK hw hm.1 rfl 14 (by decide) (hts _ kf_X10_37) rfl rfl dX10_along_9 ?_
  refine lv_iload_n hx hb dX10_along_12 rfl (lv_at hl 1 rfl) ?_
  refine lv_iconst (v := 1) hx hb dX10_along_13 (by decide) ?_
  refine lv_iadd hx hb dX10_along_14 ?_
  refine lv_topi (fun t_1 et_1 => ?_)
  obtain rfl : t_1 = nI (a + 1) := et_1.trans (nI_c _ 1)
  refine h_iald hx hb hK hw (moA_a (n := 4096) (f := g 9) hm 9 (by decide) rfl rfl) (a + 1) rfl (by omega) (by omega) dX10_along_15 ?_
  rw [show (g 9) (a + 1) = X (a + 1) from (hX.2 _ (by omega)).1]
  refine h_callV (n := 2) (ci := 10) (b := mo) (As := [.int (X a), .int (X (a + 1))]) (rest := [.ref mo]) ⟨hx, hb, hml, hown, hts⟩ hK hw (c_X10_less l D dT ah s.heap.size mo AR q g hm (X a) (X (a + 1))) ko_X10_less km_X10_107 ki_X10_less ks_X10_less kn_X10 (by decide +kernel) rfl hm.1 rfl hl.1 rfl (by simp [Value.category]) dX10_along_16 (by rw [hR]; exact ⟨rfl, rfl, Nat.le_of_ble_eq_true rfl, Nat.le_of_ble_eq_true rfl, by simp, by simp⟩) (fun r_2 ah_3 H_4 L_5 st_6 hp hw hst => ?_)
  obtain ⟨rfl, rfl⟩ := hp
  have hst : st_6 = [.int (les (X a) (X (a + 1))), .ref mo] := hst
  subst hst
  refine lv_aload_n hx hb dX10_along_19 rfl (lv_at hl 0 rfl) ?_
  refine lv_aload_n hx hb dX10_along_20 rfl (lv_at hl 0 rfl) ?_
  refine h_get (ci := 10) (v := .ref (AR 9)) (C := RX10) (T := TX10) (N := 26) hx hb hts kl_X10 hown hK hw hm.1 rfl 14 (by decide) (hts _ kf_X10_37) rfl rfl dX10_along_21 ?_
  refine lv_iload_n hx hb dX10_along_24 rfl (lv_at hl 2 rfl) ?_
  refine h_iald hx hb hK hw (moA_a (n := 4096) (f := g 9) hm 9 (by decide) rfl rfl) b rfl (by omega) (by omega) dX10_along_25 ?_
  rw [show (g 9) b = X b from (hX.2 _ (by omega)).1]
  refine lv_aload_n hx hb dX10_along_26 rfl (lv_at hl 0 rfl) ?_
  refine h_get (ci := 10) (v := .ref (AR 9)) (C := RX10) (T := TX10) (N := 26) hx hb hts kl_X10 hown hK hw hm.1 rfl 14 (by decide) (hts _ kf_X10_37) rfl rfl dX10_along_27 ?_
  refine lv_iload_n hx hb dX10_along_30 rfl (lv_at hl 2 rfl) ?_
  refine lv_iconst (v := 1) hx hb dX10_along_31 (by decide) ?_
  refine lv_iadd hx hb dX10_along_32 ?_
  refine lv_topi (fun t_7 et_7 => ?_)
  obtain rfl : t_7 = nI (b + 1) := et_7.trans (nI_c _ 1)
  refine h_iald hx hb hK hw (moA_a (n := 4096) (f := g 9) hm 9 (by decide) rfl rfl) (b + 1) rfl (by omega) (by omega) dX10_along_33 ?_
  rw [show (g 9) (b + 1) = X (b + 1) from (hX.2 _ (by omega)).1]
  refine h_callV (n := 2) (ci := 10) (b := mo) (As := [.int (X b), .int (X (b + 1))]) (rest := [.int (les (X a) (X (a + 1))), .ref mo]) ⟨hx, hb, hml, hown, hts⟩ hK hw (c_X10_less l D dT ah H_4.size mo AR q g hm (X b) (X (b + 1))) ko_X10_less km_X10_107 ki_X10_less ks_X10_less kn_X10 (by decide +kernel) rfl hm.1 rfl hl.1 rfl (by simp [Value.category]) dX10_along_34 (by rw [hR]; exact ⟨rfl, rfl, Nat.le_of_ble_eq_true rfl, Nat.le_of_ble_eq_true rfl, by simp, by simp⟩) (fun r_8 ah_9 H_10 L_11 st_12 hp hw hst => ?_)
  obtain ⟨rfl, rfl⟩ := hp
  have hst : st_12 = [.int (les (X b) (X (b + 1))), .int (les (X a) (X (a + 1))), .ref mo] := hst
  subst hst
  refine h_callV (n := 2) (ci := 10) (b := mo) (As := [.int (les (X a) (X (a + 1))), .int (les (X b) (X (b + 1)))]) (rest := []) ⟨hx, hb, hml, hown, hts⟩ hK hw (c_X10_more l D dT ah H_10.size mo AR q g hm (les (X a) (X (a + 1))) (les (X b) (X (b + 1)))) ko_X10_more km_X10_111 ki_X10_more ks_X10_more kn_X10 (by decide +kernel) rfl hm.1 rfl hl.1 rfl (by simp [Value.category]) dX10_along_37 (by rw [hR]; exact ⟨rfl, rfl, Nat.le_of_ble_eq_true rfl, Nat.le_of_ble_eq_true rfl, by simp, by simp⟩) (fun r_13 ah_14 H_15 L_16 st_17 hp hw hst => ?_)
  obtain ⟨rfl, rfl⟩ := hp
  have hst : st_17 = [.int (mor (les (X a) (X (a + 1))) (les (X b) (X (b + 1))))] := hst
  subst hst
  refine lv_istore_n (lv' := [(3, .int (mor (les (X a) (X (a + 1))) (les (X b) (X (b + 1))))), (0, .ref mo), (1, .int (nI a)), (2, .int (nI b))]) hx hb dX10_along_40 rfl hl (by decide) rfl (fun ls hl => ?_)
  refine lv_aload_n hx hb dX10_along_41 rfl (lv_at hl 1 rfl) ?_
  refine lv_aload_n hx hb dX10_along_42 rfl (lv_at hl 1 rfl) ?_
  refine lv_aload_n hx hb dX10_along_43 rfl (lv_at hl 1 rfl) ?_
  refine h_get (ci := 10) (v := .ref (AR 9)) (C := RX10) (T := TX10) (N := 26) hx hb hts kl_X10 hown hK hw hm.1 rfl 14 (by decide) (hts _ kf_X10_37) rfl rfl dX10_along_44 ?_
  refine lv_iload_n hx hb dX10_along_47 rfl (lv_at hl 2 rfl) ?_
  refine h_iald hx hb hK hw (moA_a (n := 4096) (f := g 9) hm 9 (by decide) rfl rfl) a rfl (by omega) (by omega) dX10_along_48 ?_
  rw [show (g 9) a = X a from (hX.2 _ (by omega)).1]
  refine lv_aload_n hx hb dX10_along_49 rfl (lv_at hl 1 rfl) ?_
  refine h_get (ci := 10) (v := .ref (AR 9)) (C := RX10) (T := TX10) (N := 26) hx hb hts kl_X10 hown hK hw hm.1 rfl 14 (by decide) (hts _ kf_X10_37) rfl rfl dX10_along_50 ?_
  refine lv_iload_n hx hb dX10_along_53 rfl (lv_at hl 2 rfl) ?_
  refine lv_iconst (v := 1) hx hb dX10_along_54 (by decide) ?_
  refine lv_iadd hx hb dX10_along_55 ?_
  refine lv_topi (fun t_18 et_18 => ?_)
  obtain rfl : t_18 = nI (a + 1) := et_18.trans (nI_c _ 1)
  refine h_iald hx hb hK hw (moA_a (n := 4096) (f := g 9) hm 9 (by decide) rfl rfl) (a + 1) rfl (by omega) (by omega) dX10_along_56 ?_
  rw [show (g 9) (a + 1) = X (a + 1) from (hX.2 _ (by omega)).1]
  refine h_callV (n := 2) (ci := 10) (b := mo) (As := [.int (X a), .int (X (a + 1))]) (rest := [.ref mo]) ⟨hx, hb, hml, hown, hts⟩ hK hw (c_X10_more l D dT ah H_15.size mo AR q g hm (X a) (X (a + 1))) ko_X10_more km_X10_111 ki_X10_more ks_X10_more kn_X10 (by decide +kernel) rfl hm.1 rfl hl.1 rfl (by simp [Value.category]) dX10_along_57 (by rw [hR]; exact ⟨rfl, rfl, Nat.le_of_ble_eq_true rfl, Nat.le_of_ble_eq_true rfl, by simp, by simp⟩) (fun r_19 ah_20 H_21 L_22 st_23 hp hw hst => ?_)
  obtain ⟨rfl, rfl⟩ := hp
  have hst : st_23 = [.int (mor (X a) (X (a + 1))), .ref mo] := hst
  subst hst
  refine lv_aload_n hx hb dX10_along_60 rfl (lv_at hl 1 rfl) ?_
  refine lv_aload_n hx hb dX10_along_61 rfl (lv_at hl 1 rfl) ?_
  refine h_get (ci := 10) (v := .ref (AR 9)) (C := RX10) (T := TX10) (N := 26) hx hb hts kl_X10 hown hK hw hm.1 rfl 14 (by decide) (hts _ kf_X10_37) rfl rfl dX10_along_62 ?_
  refine lv_iload_n hx hb dX10_along_65 rfl (lv_at hl 3 rfl) ?_
  refine h_iald hx hb hK hw (moA_a (n := 4096) (f := g 9) hm 9 (by decide) rfl rfl) b rfl (by omega) (by omega) dX10_along_66 ?_
  rw [show (g 9) b = X b from (hX.2 _ (by omega)).1]
  refine lv_aload_n hx hb dX10_along_67 rfl (lv_at hl 1 rfl) ?_
  refine h_get (ci := 10) (v := .ref (AR 9)) (C := RX10) (T := TX10) (N := 26) hx hb hts kl_X10 hown hK hw hm.1 rfl 14 (by decide) (hts _ kf_X10_37) rfl rfl dX10_along_68 ?_
  refine lv_iload_n hx hb dX10_along_71 rfl (lv_at hl 3 rfl) ?_
  refine lv_iconst (v := 1) hx hb dX10_along_72 (by decide) ?_
  refine lv_iadd hx hb dX10_along_73 ?_
  refine lv_topi (fun t_24 et_24 => ?_)
  obtain rfl : t_24 = nI (b + 1) := et_24.trans (nI_c _ 1)
  refine h_iald hx hb hK hw (moA_a (n := 4096) (f := g 9) hm 9 (by decide) rfl rfl) (b + 1) rfl (by omega) (by omega) dX10_along_74 ?_
  rw [show (g 9) (b + 1) = X (b + 1) from (hX.2 _ (by omega)).1]
  refine h_callV (n := 2) (ci := 10) (b := mo) (As := [.int (X b), .int (X (b + 1))]) (rest := [.int (mor (X a) (X (a + 1))), .ref mo]) ⟨hx, hb, hml, hown, hts⟩ hK hw (c_X10_more l D dT ah H_21.size mo AR q g hm (X b) (X (b + 1))) ko_X10_more km_X10_111 ki_X10_more ks_X10_more kn_X10 (by decide +kernel) rfl hm.1 rfl hl.1 rfl (by simp [Value.category]) dX10_along_75 (by rw [hR]; exact ⟨rfl, rfl, Nat.le_of_ble_eq_true rfl, Nat.le_of_ble_eq_true rfl, by simp, by simp⟩) (fun r_25 ah_26 H_27 L_28 st_29 hp hw hst => ?_)
  obtain ⟨rfl, rfl⟩ := hp
  have hst : st_29 = [.int (mor (X b) (X (b + 1))), .int (mor (X a) (X (a + 1))), .ref mo] := hst
  subst hst
  refine h_callV (n := 2) (ci := 10) (b := mo) (As := [.int (mor (X a) (X (a + 1))), .int (mor (X b) (X (b + 1)))]) (rest := []) ⟨hx, hb, hml, hown, hts⟩ hK hw (c_X10_less l D dT ah H_27.size mo AR q g hm (mor (X a) (X (a + 1))) (mor (X b) (X (b + 1)))) ko_X10_less km_X10_107 ki_X10_less ks_X10_less kn_X10 (by decide +kernel) rfl hm.1 rfl hl.1 rfl (by simp [Value.category]) dX10_along_78 (by rw [hR]; exact ⟨rfl, rfl, Nat.le_of_ble_eq_true rfl, Nat.le_of_ble_eq_true rfl, by simp, by simp⟩) (fun r_30 ah_31 H_32 L_33 st_34 hp hw hst => ?_)
  obtain ⟨rfl, rfl⟩ := hp
  have hst : st_34 = [.int (les (mor (X a) (X (a + 1))) (mor (X b) (X (b + 1))))] := hst
  subst hst
  refine lv_istore (lv' := [(4, .int (les (mor (X a) (X (a + 1))) (mor (X b) (X (b + 1))))), (3, .int (mor (les (X a) (X (a + 1))) (les (X b) (X (b + 1))))), (0, .ref mo), (1, .int (nI a)), (2, .int (nI b))]) hx hb dX10_along_81 hl (by decide) rfl (fun ls hl => ?_)
  refine lv_aload_n hx hb dX10_along_83 rfl (lv_at hl 2 rfl) ?_
  refine lv_aload_n hx hb dX10_along_84 rfl (lv_at hl 2 rfl) ?_
  refine lv_aload_n hx hb dX10_along_85 rfl (lv_at hl 2 rfl) ?_
  refine h_get (ci := 10) (v := .ref (AR 10)) (C := RX10) (T := TX10) (N := 26) hx hb hts kl_X10 hown hK hw hm.1 rfl 15 (by decide) (hts _ kf_X10_40) rfl rfl dX10_along_86 ?_
  refine lv_iload_n hx hb dX10_along_89 rfl (lv_at hl 3 rfl) ?_
  refine h_iald hx hb hK hw (moA_a (n := 4096) (f := g 10) hm 10 (by decide) rfl rfl) a rfl (by omega) (by omega) dX10_along_90 ?_
  rw [show (g 10) a = Y a from (hX.2 _ (by omega)).2]
  refine lv_aload_n hx hb dX10_along_91 rfl (lv_at hl 2 rfl) ?_
  refine h_get (ci := 10) (v := .ref (AR 10)) (C := RX10) (T := TX10) (N := 26) hx hb hts kl_X10 hown hK hw hm.1 rfl 15 (by decide) (hts _ kf_X10_40) rfl rfl dX10_along_92 ?_
  refine lv_iload_n hx hb dX10_along_95 rfl (lv_at hl 3 rfl) ?_
  refine lv_iconst (v := 1) hx hb dX10_along_96 (by decide) ?_
  refine lv_iadd hx hb dX10_along_97 ?_
  refine lv_topi (fun t_35 et_35 => ?_)
  obtain rfl : t_35 = nI (a + 1) := et_35.trans (nI_c _ 1)
  refine h_iald hx hb hK hw (moA_a (n := 4096) (f := g 10) hm 10 (by decide) rfl rfl) (a + 1) rfl (by omega) (by omega) dX10_along_98 ?_
  rw [show (g 10) (a + 1) = Y (a + 1) from (hX.2 _ (by omega)).2]
  refine h_callV (n := 2) (ci := 10) (b := mo) (As := [.int (Y a), .int (Y (a + 1))]) (rest := [.ref mo]) ⟨hx, hb, hml, hown, hts⟩ hK hw (c_X10_less l D dT ah H_32.size mo AR q g hm (Y a) (Y (a + 1))) ko_X10_less km_X10_107 ki_X10_less ks_X10_less kn_X10 (by decide +kernel) rfl hm.1 rfl hl.1 rfl (by simp [Value.category]) dX10_along_99 (by rw [hR]; exact ⟨rfl, rfl, Nat.le_of_ble_eq_true rfl, Nat.le_of_ble_eq_true rfl, by simp, by simp⟩) (fun r_36 ah_37 H_38 L_39 st_40 hp hw hst => ?_)
  obtain ⟨rfl, rfl⟩ := hp
  have hst : st_40 = [.int (les (Y a) (Y (a + 1))), .ref mo] := hst
  subst hst
  refine lv_aload_n hx hb dX10_along_102 rfl (lv_at hl 2 rfl) ?_
  refine lv_aload_n hx hb dX10_along_103 rfl (lv_at hl 2 rfl) ?_
  refine h_get (ci := 10) (v := .ref (AR 10)) (C := RX10) (T := TX10) (N := 26) hx hb hts kl_X10 hown hK hw hm.1 rfl 15 (by decide) (hts _ kf_X10_40) rfl rfl dX10_along_104 ?_
  refine lv_iload_n hx hb dX10_along_107 rfl (lv_at hl 4 rfl) ?_
  refine h_iald hx hb hK hw (moA_a (n := 4096) (f := g 10) hm 10 (by decide) rfl rfl) b rfl (by omega) (by omega) dX10_along_108 ?_
  rw [show (g 10) b = Y b from (hX.2 _ (by omega)).2]
  refine lv_aload_n hx hb dX10_along_109 rfl (lv_at hl 2 rfl) ?_
  refine h_get (ci := 10) (v := .ref (AR 10)) (C := RX10) (T := TX10) (N := 26) hx hb hts kl_X10 hown hK hw hm.1 rfl 15 (by decide) (hts _ kf_X10_40) rfl rfl dX10_along_110 ?_
  refine lv_iload_n hx hb dX10_along_113 rfl (lv_at hl 4 rfl) ?_
  refine lv_iconst (v := 1) hx hb dX10_along_114 (by decide) ?_
  refine lv_iadd hx hb dX10_along_115 ?_
  refine lv_topi (fun t_41 et_41 => ?_)
  obtain rfl : t_41 = nI (b + 1) := et_41.trans (nI_c _ 1)
  refine h_iald hx hb hK hw (moA_a (n := 4096) (f := g 10) hm 10 (by decide) rfl rfl) (b + 1) rfl (by omega) (by omega) dX10_along_116 ?_
  rw [show (g 10) (b + 1) = Y (b + 1) from (hX.2 _ (by omega)).2]
  refine h_callV (n := 2) (ci := 10) (b := mo) (As := [.int (Y b), .int (Y (b + 1))]) (rest := [.int (les (Y a) (Y (a + 1))), .ref mo]) ⟨hx, hb, hml, hown, hts⟩ hK hw (c_X10_less l D dT ah H_38.size mo AR q g hm (Y b) (Y (b + 1))) ko_X10_less km_X10_107 ki_X10_less ks_X10_less kn_X10 (by decide +kernel) rfl hm.1 rfl hl.1 rfl (by simp [Value.category]) dX10_along_117 (by rw [hR]; exact ⟨rfl, rfl, Nat.le_of_ble_eq_true rfl, Nat.le_of_ble_eq_true rfl, by simp, by simp⟩) (fun r_42 ah_43 H_44 L_45 st_46 hp hw hst => ?_)
  obtain ⟨rfl, rfl⟩ := hp
  have hst : st_46 = [.int (les (Y b) (Y (b + 1))), .int (les (Y a) (Y (a + 1))), .ref mo] := hst
  subst hst
  refine h_callV (n := 2) (ci := 10) (b := mo) (As := [.int (les (Y a) (Y (a + 1))), .int (les (Y b) (Y (b + 1)))]) (rest := []) ⟨hx, hb, hml, hown, hts⟩ hK hw (c_X10_more l D dT ah H_44.size mo AR q g hm (les (Y a) (Y (a + 1))) (les (Y b) (Y (b + 1)))) ko_X10_more km_X10_111 ki_X10_more ks_X10_more kn_X10 (by decide +kernel) rfl hm.1 rfl hl.1 rfl (by simp [Value.category]) dX10_along_120 (by rw [hR]; exact ⟨rfl, rfl, Nat.le_of_ble_eq_true rfl, Nat.le_of_ble_eq_true rfl, by simp, by simp⟩) (fun r_47 ah_48 H_49 L_50 st_51 hp hw hst => ?_)
  obtain ⟨rfl, rfl⟩ := hp
  have hst : st_51 = [.int (mor (les (Y a) (Y (a + 1))) (les (Y b) (Y (b + 1))))] := hst
  subst hst
  refine lv_istore (lv' := [(5, .int (mor (les (Y a) (Y (a + 1))) (les (Y b) (Y (b + 1))))), (4, .int (les (mor (X a) (X (a + 1))) (mor (X b) (X (b + 1))))), (3, .int (mor (les (X a) (X (a + 1))) (les (X b) (X (b + 1))))), (0, .ref mo), (1, .int (nI a)), (2, .int (nI b))]) hx hb dX10_along_123 hl (by decide) rfl (fun ls hl => ?_)
  refine lv_aload_n hx hb dX10_along_125 rfl (lv_at hl 3 rfl) ?_
  refine lv_aload_n hx hb dX10_along_126 rfl (lv_at hl 3 rfl) ?_
  refine lv_aload_n hx hb dX10_along_127 rfl (lv_at hl 3 rfl) ?_
  refine h_get (ci := 10) (v := .ref (AR 10)) (C := RX10) (T := TX10) (N := 26) hx hb hts kl_X10 hown hK hw hm.1 rfl 15 (by decide) (hts _ kf_X10_40) rfl rfl dX10_along_128 ?_
  refine lv_iload_n hx hb dX10_along_131 rfl (lv_at hl 4 rfl) ?_
  refine h_iald hx hb hK hw (moA_a (n := 4096) (f := g 10) hm 10 (by decide) rfl rfl) a rfl (by omega) (by omega) dX10_along_132 ?_
  rw [show (g 10) a = Y a from (hX.2 _ (by omega)).2]
  refine lv_aload_n hx hb dX10_along_133 rfl (lv_at hl 3 rfl) ?_
  refine h_get (ci := 10) (v := .ref (AR 10)) (C := RX10) (T := TX10) (N := 26) hx hb hts kl_X10 hown hK hw hm.1 rfl 15 (by decide) (hts _ kf_X10_40) rfl rfl dX10_along_134 ?_
  refine lv_iload_n hx hb dX10_along_137 rfl (lv_at hl 4 rfl) ?_
  refine lv_iconst (v := 1) hx hb dX10_along_138 (by decide) ?_
  refine lv_iadd hx hb dX10_along_139 ?_
  refine lv_topi (fun t_52 et_52 => ?_)
  obtain rfl : t_52 = nI (a + 1) := et_52.trans (nI_c _ 1)
  refine h_iald hx hb hK hw (moA_a (n := 4096) (f := g 10) hm 10 (by decide) rfl rfl) (a + 1) rfl (by omega) (by omega) dX10_along_140 ?_
  rw [show (g 10) (a + 1) = Y (a + 1) from (hX.2 _ (by omega)).2]
  refine h_callV (n := 2) (ci := 10) (b := mo) (As := [.int (Y a), .int (Y (a + 1))]) (rest := [.ref mo]) ⟨hx, hb, hml, hown, hts⟩ hK hw (c_X10_more l D dT ah H_49.size mo AR q g hm (Y a) (Y (a + 1))) ko_X10_more km_X10_111 ki_X10_more ks_X10_more kn_X10 (by decide +kernel) rfl hm.1 rfl hl.1 rfl (by simp [Value.category]) dX10_along_141 (by rw [hR]; exact ⟨rfl, rfl, Nat.le_of_ble_eq_true rfl, Nat.le_of_ble_eq_true rfl, by simp, by simp⟩) (fun r_53 ah_54 H_55 L_56 st_57 hp hw hst => ?_)
  obtain ⟨rfl, rfl⟩ := hp
  have hst : st_57 = [.int (mor (Y a) (Y (a + 1))), .ref mo] := hst
  subst hst
  refine lv_aload_n hx hb dX10_along_144 rfl (lv_at hl 3 rfl) ?_
  refine lv_aload_n hx hb dX10_along_145 rfl (lv_at hl 3 rfl) ?_
  refine h_get (ci := 10) (v := .ref (AR 10)) (C := RX10) (T := TX10) (N := 26) hx hb hts kl_X10 hown hK hw hm.1 rfl 15 (by decide) (hts _ kf_X10_40) rfl rfl dX10_along_146 ?_
  refine lv_iload_n hx hb dX10_along_149 rfl (lv_at hl 5 rfl) ?_
  refine h_iald hx hb hK hw (moA_a (n := 4096) (f := g 10) hm 10 (by decide) rfl rfl) b rfl (by omega) (by omega) dX10_along_150 ?_
  rw [show (g 10) b = Y b from (hX.2 _ (by omega)).2]
  refine lv_aload_n hx hb dX10_along_151 rfl (lv_at hl 3 rfl) ?_
  refine h_get (ci := 10) (v := .ref (AR 10)) (C := RX10) (T := TX10) (N := 26) hx hb hts kl_X10 hown hK hw hm.1 rfl 15 (by decide) (hts _ kf_X10_40) rfl rfl dX10_along_152 ?_
  refine lv_iload_n hx hb dX10_along_155 rfl (lv_at hl 5 rfl) ?_
  refine lv_iconst (v := 1) hx hb dX10_along_156 (by decide) ?_
  refine lv_iadd hx hb dX10_along_157 ?_
  refine lv_topi (fun t_58 et_58 => ?_)
  obtain rfl : t_58 = nI (b + 1) := et_58.trans (nI_c _ 1)
  refine h_iald hx hb hK hw (moA_a (n := 4096) (f := g 10) hm 10 (by decide) rfl rfl) (b + 1) rfl (by omega) (by omega) dX10_along_158 ?_
  rw [show (g 10) (b + 1) = Y (b + 1) from (hX.2 _ (by omega)).2]
  refine h_callV (n := 2) (ci := 10) (b := mo) (As := [.int (Y b), .int (Y (b + 1))]) (rest := [.int (mor (Y a) (Y (a + 1))), .ref mo]) ⟨hx, hb, hml, hown, hts⟩ hK hw (c_X10_more l D dT ah H_55.size mo AR q g hm (Y b) (Y (b + 1))) ko_X10_more km_X10_111 ki_X10_more ks_X10_more kn_X10 (by decide +kernel) rfl hm.1 rfl hl.1 rfl (by simp [Value.category]) dX10_along_159 (by rw [hR]; exact ⟨rfl, rfl, Nat.le_of_ble_eq_true rfl, Nat.le_of_ble_eq_true rfl, by simp, by simp⟩) (fun r_59 ah_60 H_61 L_62 st_63 hp hw hst => ?_)
  obtain ⟨rfl, rfl⟩ := hp
  have hst : st_63 = [.int (mor (Y b) (Y (b + 1))), .int (mor (Y a) (Y (a + 1))), .ref mo] := hst
  subst hst
  refine h_callV (n := 2) (ci := 10) (b := mo) (As := [.int (mor (Y a) (Y (a + 1))), .int (mor (Y b) (Y (b + 1)))]) (rest := []) ⟨hx, hb, hml, hown, hts⟩ hK hw (c_X10_less l D dT ah H_61.size mo AR q g hm (mor (Y a) (Y (a + 1))) (mor (Y b) (Y (b + 1)))) ko_X10_less km_X10_107 ki_X10_less ks_X10_less kn_X10 (by decide +kernel) rfl hm.1 rfl hl.1 rfl (by simp [Value.category]) dX10_along_162 (by rw [hR]; exact ⟨rfl, rfl, Nat.le_of_ble_eq_true rfl, Nat.le_of_ble_eq_true rfl, by simp, by simp⟩) (fun r_64 ah_65 H_66 L_67 st_68 hp hw hst => ?_)
  obtain ⟨rfl, rfl⟩ := hp
  have hst : st_68 = [.int (les (mor (Y a) (Y (a + 1))) (mor (Y b) (Y (b + 1))))] := hst
  subst hst
  refine lv_istore (lv' := [(6, .int (les (mor (Y a) (Y (a + 1))) (mor (Y b) (Y (b + 1))))), (5, .int (mor (les (Y a) (Y (a + 1))) (les (Y b) (Y (b + 1))))), (4, .int (les (mor (X a) (X (a + 1))) (mor (X b) (X (b + 1))))), (3, .int (mor (les (X a) (X (a + 1))) (les (X b) (X (b + 1))))), (0, .ref mo), (1, .int (nI a)), (2, .int (nI b))]) hx hb dX10_along_165 hl (by decide) rfl (fun ls hl => ?_)
  refine lv_aload_n hx hb dX10_along_167 rfl (lv_at hl 4 rfl) ?_
  refine lv_iload_n hx hb dX10_along_168 rfl (lv_at hl 3 rfl) ?_
  refine h_put (ci := 10) (v := .int (mor (les (X a) (X (a + 1))) (les (X b) (X (b + 1))))) (C := RX10) (T := TX10) (N := 26) hx hb hts kl_X10 tyX10 tyX10_ok nmX10 hown hK hw hm.1 rfl 19 (by decide) (hts _ kf_X10_114) rfl rfl (tyX10_ok 19 (by decide)) rfl rfl (Nat.le_of_ble_eq_true rfl) dX10_along_169 (fun H_69 L_70 hw => ?_)
  obtain ⟨ah_71, eah_71⟩ : ∃ z9 : hA, z9 = hup ah mo (.inr (10, moF (upd q 6 (mor (les (X a) (X (a + 1))) (les (X b) (X (b + 1))))) AR)) := ⟨_, rfl⟩
  have hw : hW D ah s.heap ah_71 H_69 L_70 := by rw [eah_71, ← mf_19]; exact hw
  have hm_72 : moA dT ah_71 mo AR (upd q 6 (mor (les (X a) (X (a + 1))) (les (X b) (X (b + 1))))) g := moA_q hm eah_71
  refine lv_aload_n hx hb dX10_along_172 rfl (lv_at hl 4 rfl) ?_
  refine lv_iload hx hb dX10_along_173 (lv_at hl 1 rfl) ?_
  refine h_put (ci := 10) (v := .int (mor (les (Y a) (Y (a + 1))) (les (Y b) (Y (b + 1))))) (C := RX10) (T := TX10) (N := 26) hx hb hts kl_X10 tyX10 tyX10_ok nmX10 hown hK hw hm_72.1 rfl 20 (by decide) (hts _ kf_X10_117) rfl rfl (tyX10_ok 20 (by decide)) rfl rfl (Nat.le_of_ble_eq_true rfl) dX10_along_175 (fun H_73 L_74 hw => ?_)
  obtain ⟨ah_75, eah_75⟩ : ∃ z9 : hA, z9 = hup ah_71 mo (.inr (10, moF (upd (upd q 6 (mor (les (X a) (X (a + 1))) (les (X b) (X (b + 1))))) 7 (mor (les (Y a) (Y (a + 1))) (les (Y b) (Y (b + 1))))) AR)) := ⟨_, rfl⟩
  have hw : hW D ah s.heap ah_75 H_73 L_74 := by rw [eah_75, ← mf_20]; exact hw
  have hm_76 : moA dT ah_75 mo AR (upd (upd q 6 (mor (les (X a) (X (a + 1))) (les (X b) (X (b + 1))))) 7 (mor (les (Y a) (Y (a + 1))) (les (Y b) (Y (b + 1))))) g := moA_q hm_72 eah_75
  refine lv_iload_n hx hb dX10_along_178 rfl (lv_at hl 3 rfl) ?_
  refine lv_iload hx hb dX10_along_179 (lv_at hl 2 rfl) ?_
  refine lv_icmp_gt (tgt := 191) hx hb dX10_along_181 (by decide) (fun c_77 => ?_) (fun c_77 => ?_)
  · skip
    refine lv_iconst (v := 0) hx hb dX10_along_191 (by decide) ?_
    have hv : (0, mor (les (X a) (X (a + 1))) (les (X b) (X (b + 1))), mor (les (Y a) (Y (a + 1))) (les (Y b) (Y (b + 1)))) = mAlong X Y a b := by
      unfold mAlong
      all_goals rw [if_pos c_77]
    have hh : ah_75 = hup ah mo (.inr (10, moF (upd (upd q 6 (mor (les (X a) (X (a + 1))) (les (X b) (X (b + 1))))) 7 (mor (les (Y a) (Y (a + 1))) (les (Y b) (Y (b + 1))))) AR)) := by first | exact (moA_id hm rfl).symm | (subst_vars; simp only [hup_hup])
    rw [hQ]
    exact h_iret hx hb hr hlk hsz hw (by simp) (by simp) dX10_along_192 ⟨congrArg (a₁ := (0, mor (les (X a) (X (a + 1))) (les (X b) (X (b + 1))), mor (les (Y a) (Y (a + 1))) (les (Y b) (Y (b + 1))))) (a₂ := mAlong X Y a b) (fun z : Int32 × Int32 × Int32 => some (Value.int z.1)) hv, hh.trans (congrArg (a₁ := (0, mor (les (X a) (X (a + 1))) (les (X b) (X (b + 1))), mor (les (Y a) (Y (a + 1))) (les (Y b) (Y (b + 1))))) (a₂ := mAlong X Y a b) (fun z : Int32 × Int32 × Int32 => hup ah mo (.inr (10, moF (upd (upd q 6 z.2.1) 7 z.2.2) AR))) hv)⟩
  · skip
    refine lv_iload hx hb dX10_along_184 (lv_at hl 1 rfl) ?_
    refine lv_iload hx hb dX10_along_186 (lv_at hl 0 rfl) ?_
    refine lv_icmp_le (tgt := 193) hx hb dX10_along_188 (by decide) (fun c_78 => ?_) (fun c_78 => ?_)
    · skip
      refine lv_iload_n hx hb dX10_along_193 rfl (lv_at hl 3 rfl) ?_
      refine lv_iload hx hb dX10_along_194 (lv_at hl 2 rfl) ?_
      refine lv_icmp_ne (tgt := 210) hx hb dX10_along_196 (by decide) (fun c_79 => ?_) (fun c_79 => ?_)
      · skip
        refine lv_iconst (v := 2) hx hb dX10_along_210 (by decide) ?_
        have hv : (2, mor (les (X a) (X (a + 1))) (les (X b) (X (b + 1))), mor (les (Y a) (Y (a + 1))) (les (Y b) (Y (b + 1)))) = mAlong X Y a b := by
          unfold mAlong
          all_goals rw [if_neg c_77, if_pos c_78, if_neg c_79]
        have hh : ah_75 = hup ah mo (.inr (10, moF (upd (upd q 6 (mor (les (X a) (X (a + 1))) (les (X b) (X (b + 1))))) 7 (mor (les (Y a) (Y (a + 1))) (les (Y b) (Y (b + 1))))) AR)) := by first | exact (moA_id hm rfl).symm | (subst_vars; simp only [hup_hup])
        rw [hQ]
        exact h_iret hx hb hr hlk hsz hw (by simp) (by simp) dX10_along_211 ⟨congrArg (a₁ := (2, mor (les (X a) (X (a + 1))) (les (X b) (X (b + 1))), mor (les (Y a) (Y (a + 1))) (les (Y b) (Y (b + 1))))) (a₂ := mAlong X Y a b) (fun z : Int32 × Int32 × Int32 => some (Value.int z.1)) hv, hh.trans (congrArg (a₁ := (2, mor (les (X a) (X (a + 1))) (les (X b) (X (b + 1))), mor (les (Y a) (Y (a + 1))) (les (Y b) (Y (b + 1))))) (a₂ := mAlong X Y a b) (fun z : Int32 × Int32 × Int32 => hup ah mo (.inr (10, moF (upd (upd q 6 z.2.1) 7 z.2.2) AR))) hv)⟩
      · skip
        refine lv_iload hx hb dX10_along_199 (lv_at hl 1 rfl) ?_
        refine lv_iload hx hb dX10_along_201 (lv_at hl 0 rfl) ?_
        refine lv_icmp_ne (tgt := 210) hx hb dX10_along_203 (by decide) (fun c_80 => ?_) (fun c_80 => ?_)
        · skip
          refine lv_iconst (v := 2) hx hb dX10_along_210 (by decide) ?_
          have hv : (2, mor (les (X a) (X (a + 1))) (les (X b) (X (b + 1))), mor (les (Y a) (Y (a + 1))) (les (Y b) (Y (b + 1)))) = mAlong X Y a b := by
            unfold mAlong
            all_goals rw [if_neg c_77, if_pos c_78, if_pos c_79, if_neg c_80]
          have hh : ah_75 = hup ah mo (.inr (10, moF (upd (upd q 6 (mor (les (X a) (X (a + 1))) (les (X b) (X (b + 1))))) 7 (mor (les (Y a) (Y (a + 1))) (les (Y b) (Y (b + 1))))) AR)) := by first | exact (moA_id hm rfl).symm | (subst_vars; simp only [hup_hup])
          rw [hQ]
          exact h_iret hx hb hr hlk hsz hw (by simp) (by simp) dX10_along_211 ⟨congrArg (a₁ := (2, mor (les (X a) (X (a + 1))) (les (X b) (X (b + 1))), mor (les (Y a) (Y (a + 1))) (les (Y b) (Y (b + 1))))) (a₂ := mAlong X Y a b) (fun z : Int32 × Int32 × Int32 => some (Value.int z.1)) hv, hh.trans (congrArg (a₁ := (2, mor (les (X a) (X (a + 1))) (les (X b) (X (b + 1))), mor (les (Y a) (Y (a + 1))) (les (Y b) (Y (b + 1))))) (a₂ := mAlong X Y a b) (fun z : Int32 × Int32 × Int32 => hup ah mo (.inr (10, moF (upd (upd q 6 z.2.1) 7 z.2.2) AR))) hv)⟩
        · skip
          refine lv_iconst (v := 1) hx hb dX10_along_206 (by decide) ?_
          refine lv_goto (tgt := 211) hx hb dX10_along_207 (by decide) ?_
          have hv : (1, mor (les (X a) (X (a + 1))) (les (X b) (X (b + 1))), mor (les (Y a) (Y (a + 1))) (les (Y b) (Y (b + 1)))) = mAlong X Y a b := by
            unfold mAlong
            all_goals rw [if_neg c_77, if_pos c_78, if_pos c_79, if_pos c_80]
          have hh : ah_75 = hup ah mo (.inr (10, moF (upd (upd q 6 (mor (les (X a) (X (a + 1))) (les (X b) (X (b + 1))))) 7 (mor (les (Y a) (Y (a + 1))) (les (Y b) (Y (b + 1))))) AR)) := by first | exact (moA_id hm rfl).symm | (subst_vars; simp only [hup_hup])
          rw [hQ]
          exact h_iret hx hb hr hlk hsz hw (by simp) (by simp) dX10_along_211 ⟨congrArg (a₁ := (1, mor (les (X a) (X (a + 1))) (les (X b) (X (b + 1))), mor (les (Y a) (Y (a + 1))) (les (Y b) (Y (b + 1))))) (a₂ := mAlong X Y a b) (fun z : Int32 × Int32 × Int32 => some (Value.int z.1)) hv, hh.trans (congrArg (a₁ := (1, mor (les (X a) (X (a + 1))) (les (X b) (X (b + 1))), mor (les (Y a) (Y (a + 1))) (les (Y b) (Y (b + 1))))) (a₂ := mAlong X Y a b) (fun z : Int32 × Int32 × Int32 => hup ah mo (.inr (10, moF (upd (upd q 6 z.2.1) 7 z.2.2) AR))) hv)⟩
    · skip
      refine lv_iconst (v := 0) hx hb dX10_along_191 (by decide) ?_
      have hv : (0, mor (les (X a) (X (a + 1))) (les (X b) (X (b + 1))), mor (les (Y a) (Y (a + 1))) (les (Y b) (Y (b + 1)))) = mAlong X Y a b := by
        unfold mAlong
        all_goals rw [if_neg c_77, if_neg c_78]
      have hh : ah_75 = hup ah mo (.inr (10, moF (upd (upd q 6 (mor (les (X a) (X (a + 1))) (les (X b) (X (b + 1))))) 7 (mor (les (Y a) (Y (a + 1))) (les (Y b) (Y (b + 1))))) AR)) := by first | exact (moA_id hm rfl).symm | (subst_vars; simp only [hup_hup])
      rw [hQ]
      exact h_iret hx hb hr hlk hsz hw (by simp) (by simp) dX10_along_192 ⟨congrArg (a₁ := (0, mor (les (X a) (X (a + 1))) (les (X b) (X (b + 1))), mor (les (Y a) (Y (a + 1))) (les (Y b) (Y (b + 1))))) (a₂ := mAlong X Y a b) (fun z : Int32 × Int32 × Int32 => some (Value.int z.1)) hv, hh.trans (congrArg (a₁ := (0, mor (les (X a) (X (a + 1))) (les (X b) (X (b + 1))), mor (les (Y a) (Y (a + 1))) (les (Y b) (Y (b + 1))))) (a₂ := mAlong X Y a b) (fun z : Int32 × Int32 × Int32 => hup ah mo (.inr (10, moF (upd (upd q 6 z.2.1) 7 z.2.2) AR))) hv)⟩

set_option maxHeartbeats 4000000 in
set_option maxRecDepth 100000 in
theorem c_X10_meets (l : Launch) (D : va_G) (dT : Nat → ClassId) (ah : hA) (sz : Nat) (mo : Nat) (AR : Nat → Nat) (q : Nat → Int32) (g : Nat → Nat → Int32) (hm : moA dT ah mo AR q g) (np : Nat) (X Y : Nat → Int32) (hX : moX np g X Y) (a b : Nat) (ha : a < np) (hb9 : b + 1 < np) : hMet l yX10_meets cX10_meets 3 (some .boolean) ({ frames := 3, cells := 0, slots := 0, locals := 68 }) D dT [.ref mo, .int (nI a), .int (nI b)] ah sz (fun r ah2 => mOn X Y (X a) (Y a) b = false ∧ r = some (.int 0) ∧ ah = ah2 ∨ ¬ mOn X Y (X a) (Y a) b = false ∧ r = some (.int 1) ∧ ah2 = hup ah mo (.inr (10, moF (upd (upd q 6 (X a)) 7 (Y a)) AR))) 0 0 := by
  refine h_met (by decide) (Nat.le_of_ble_eq_true rfl) ?_
  intro p e s m below meth c ls R Q args hav hR hQ hB hl hsz hw
  obtain ⟨hx, hb, hml, hr, hts, hown, hlk, hin, hK⟩ := hB
  have hown : s.vm.findClass RX10 = some m.cls := hown
  have hl : lv_has ls 3 [(0, .ref mo), (1, .int (nI a)), (2, .int (nI b))] := hl
  have hnp := hX.1
  refine lv_aload_n hx hb dX10_meets_0 rfl (lv_at hl 0 rfl) ?_
  refine lv_aload_n hx hb dX10_meets_1 rfl (lv_at hl 0 rfl) ?_
  refine h_get (ci := 10) (v := .ref (AR 9)) (C := RX10) (T := TX10) (N := 26) hx hb hts kl_X10 hown hK hw hm.1 rfl 14 (by decide) (hts _ kf_X10_37) rfl rfl dX10_meets_2 ?_
  refine lv_iload_n hx hb dX10_meets_5 rfl (lv_at hl 1 rfl) ?_
  refine h_iald hx hb hK hw (moA_a (n := 4096) (f := g 9) hm 9 (by decide) rfl rfl) a rfl (by omega) (by omega) dX10_meets_6 ?_
  rw [show (g 9) a = X a from (hX.2 _ (by omega)).1]
  refine lv_aload_n hx hb dX10_meets_7 rfl (lv_at hl 0 rfl) ?_
  refine h_get (ci := 10) (v := .ref (AR 10)) (C := RX10) (T := TX10) (N := 26) hx hb hts kl_X10 hown hK hw hm.1 rfl 15 (by decide) (hts _ kf_X10_40) rfl rfl dX10_meets_8 ?_
  refine lv_iload_n hx hb dX10_meets_11 rfl (lv_at hl 1 rfl) ?_
  refine h_iald hx hb hK hw (moA_a (n := 4096) (f := g 10) hm 10 (by decide) rfl rfl) a rfl (by omega) (by omega) dX10_meets_12 ?_
  rw [show (g 10) a = Y a from (hX.2 _ (by omega)).2]
  refine lv_iload_n hx hb dX10_meets_13 rfl (lv_at hl 2 rfl) ?_
  refine h_callV (n := 3) (ci := 10) (b := mo) (As := [.int (X a), .int (Y a), .int (nI b)]) (rest := []) ⟨hx, hb, hml, hown, hts⟩ hK hw (c_X10_isOn l D dT ah s.heap.size mo AR q g hm np X Y hX (X a) (Y a) b (by omega)) ko_X10_isOn km_X10_120 ki_X10_isOn ks_X10_isOn kn_X10 (by decide +kernel) rfl hm.1 rfl hl.1 rfl (by simp [Value.category]) dX10_meets_14 (by rw [hR]; exact ⟨rfl, rfl, Nat.le_of_ble_eq_true rfl, Nat.le_of_ble_eq_true rfl, by simp, by simp⟩) (fun r_1 ah_2 H_3 L_4 st_5 hp hw hst => ?_)
  obtain ⟨rfl, rfl⟩ := hp
  have hst : st_5 = [.int (bI (mOn X Y (X a) (Y a) b))] := hst
  subst hst
  refine lv_if_ne (tgt := 22) hx hb dX10_meets_17 (by decide) (fun c_6 => ?_) (fun c_6 => ?_)
  · skip
    have c_6 : ¬ (mOn X Y (X a) (Y a) b = false) := (not_congr bI_0).mp c_6
    refine lv_aload_n hx hb dX10_meets_22 rfl (lv_at hl 0 rfl) ?_
    refine lv_aload_n hx hb dX10_meets_23 rfl (lv_at hl 0 rfl) ?_
    refine h_get (ci := 10) (v := .ref (AR 9)) (C := RX10) (T := TX10) (N := 26) hx hb hts kl_X10 hown hK hw hm.1 rfl 14 (by decide) (hts _ kf_X10_37) rfl rfl dX10_meets_24 ?_
    refine lv_iload_n hx hb dX10_meets_27 rfl (lv_at hl 1 rfl) ?_
    refine h_iald hx hb hK hw (moA_a (n := 4096) (f := g 9) hm 9 (by decide) rfl rfl) a rfl (by omega) (by omega) dX10_meets_28 ?_
    rw [show (g 9) a = X a from (hX.2 _ (by omega)).1]
    refine h_put (ci := 10) (v := .int (X a)) (C := RX10) (T := TX10) (N := 26) hx hb hts kl_X10 tyX10 tyX10_ok nmX10 hown hK hw hm.1 rfl 19 (by decide) (hts _ kf_X10_114) rfl rfl (tyX10_ok 19 (by decide)) rfl rfl (Nat.le_of_ble_eq_true rfl) dX10_meets_29 (fun H_7 L_8 hw => ?_)
    obtain ⟨ah_9, eah_9⟩ : ∃ z9 : hA, z9 = hup ah mo (.inr (10, moF (upd q 6 (X a)) AR)) := ⟨_, rfl⟩
    have hw : hW D ah s.heap ah_9 H_7 L_8 := by rw [eah_9, ← mf_19]; exact hw
    have hm_10 : moA dT ah_9 mo AR (upd q 6 (X a)) g := moA_q hm eah_9
    refine lv_aload_n hx hb dX10_meets_32 rfl (lv_at hl 0 rfl) ?_
    refine lv_aload_n hx hb dX10_meets_33 rfl (lv_at hl 0 rfl) ?_
    refine h_get (ci := 10) (v := .ref (AR 10)) (C := RX10) (T := TX10) (N := 26) hx hb hts kl_X10 hown hK hw hm_10.1 rfl 15 (by decide) (hts _ kf_X10_40) rfl rfl dX10_meets_34 ?_
    refine lv_iload_n hx hb dX10_meets_37 rfl (lv_at hl 1 rfl) ?_
    refine h_iald hx hb hK hw (moA_a (n := 4096) (f := g 10) hm_10 10 (by decide) rfl rfl) a rfl (by omega) (by omega) dX10_meets_38 ?_
    rw [show (g 10) a = Y a from (hX.2 _ (by omega)).2]
    refine h_put (ci := 10) (v := .int (Y a)) (C := RX10) (T := TX10) (N := 26) hx hb hts kl_X10 tyX10 tyX10_ok nmX10 hown hK hw hm_10.1 rfl 20 (by decide) (hts _ kf_X10_117) rfl rfl (tyX10_ok 20 (by decide)) rfl rfl (Nat.le_of_ble_eq_true rfl) dX10_meets_39 (fun H_11 L_12 hw => ?_)
    obtain ⟨ah_13, eah_13⟩ : ∃ z9 : hA, z9 = hup ah_9 mo (.inr (10, moF (upd (upd q 6 (X a)) 7 (Y a)) AR)) := ⟨_, rfl⟩
    have hw : hW D ah s.heap ah_13 H_11 L_12 := by rw [eah_13, ← mf_20]; exact hw
    have hm_14 : moA dT ah_13 mo AR (upd (upd q 6 (X a)) 7 (Y a)) g := moA_q hm_10 eah_13
    refine lv_iconst (v := 1) hx hb dX10_meets_42 (by decide) ?_
    rw [hQ]
    exact h_zret hx hb hr hlk hsz hw (by simp) (by simp) dX10_meets_43 (by decide) (Or.inr ⟨c_6, rfl, by subst_vars; simp only [hup_hup]⟩)
  · skip
    have c_6 : mOn X Y (X a) (Y a) b = false := bI_0.mp c_6
    refine lv_iconst (v := 0) hx hb dX10_meets_20 (by decide) ?_
    rw [hQ]
    exact h_zret hx hb hr hlk hsz hw (by simp) (by simp) dX10_meets_21 (by decide) (Or.inl ⟨c_6, rfl, rfl⟩)

def mMeet (X Y : Nat → Int32) (mx my : Int32) (a b : Nat) : Int32 × Int32 × Int32 := (if mSide X Y a (a + 1) (X b) (Y b) = 0 then (if mSide X Y a (a + 1) (X (b + 1)) (Y (b + 1)) = 0 then (if (mAlong X Y a b).1 = 2 then (3, (mAlong X Y a b).2.1, (mAlong X Y a b).2.2) else ((mAlong X Y a b).1, (mAlong X Y a b).2.1, (mAlong X Y a b).2.2)) else (if 0 ≤ (mSide X Y a (a + 1) (X b) (Y b) * mSide X Y a (a + 1) (X (b + 1)) (Y (b + 1))) then (if mOn X Y (X a) (Y a) b = false then (if mOn X Y (X (a + 1)) (Y (a + 1)) b = false then (if mOn X Y (X b) (Y b) a = false then (if mOn X Y (X (b + 1)) (Y (b + 1)) a = false then (0, mx, my) else (1, X (b + 1), Y (b + 1))) else (1, X b, Y b)) else (1, X (a + 1), Y (a + 1))) else (1, X a, Y a)) else (if 0 ≤ (mSide X Y b (b + 1) (X a) (Y a) * mSide X Y b (b + 1) (X (a + 1)) (Y (a + 1))) then (if mOn X Y (X a) (Y a) b = false then (if mOn X Y (X (a + 1)) (Y (a + 1)) b = false then (if mOn X Y (X b) (Y b) a = false then (if mOn X Y (X (b + 1)) (Y (b + 1)) a = false then (0, mx, my) else (1, X (b + 1), Y (b + 1))) else (1, X b, Y b)) else (1, X (a + 1), Y (a + 1))) else (1, X a, Y a)) else (2, mx, my)))) else (if 0 ≤ (mSide X Y a (a + 1) (X b) (Y b) * mSide X Y a (a + 1) (X (b + 1)) (Y (b + 1))) then (if mOn X Y (X a) (Y a) b = false then (if mOn X Y (X (a + 1)) (Y (a + 1)) b = false then (if mOn X Y (X b) (Y b) a = false then (if mOn X Y (X (b + 1)) (Y (b + 1)) a = false then (0, mx, my) else (1, X (b + 1), Y (b + 1))) else (1, X b, Y b)) else (1, X (a + 1), Y (a + 1))) else (1, X a, Y a)) else (if 0 ≤ (mSide X Y b (b + 1) (X a) (Y a) * mSide X Y b (b + 1) (X (a + 1)) (Y (a + 1))) then (if mOn X Y (X a) (Y a) b = false then (if mOn X Y (X (a + 1)) (Y (a + 1)) b = false then (if mOn X Y (X b) (Y b) a = false then (if mOn X Y (X (b + 1)) (Y (b + 1)) a = false then (0, mx, my) else (1, X (b + 1), Y (b + 1))) else (1, X b, Y b)) else (1, X (a + 1), Y (a + 1))) else (1, X a, Y a)) else (2, mx, my))))
set_option maxHeartbeats 4000000 in
set_option maxRecDepth 100000 in
theorem c_X10_meet (l : Launch) (D : va_G) (dT : Nat → ClassId) (ah : hA) (sz : Nat) (mo : Nat) (AR : Nat → Nat) (q : Nat → Int32) (g : Nat → Nat → Int32) (hm : moA dT ah mo AR q g) (np : Nat) (X Y : Nat → Int32) (hX : moX np g X Y) (a b : Nat) (ha : a + 1 < np) (hb9 : b + 1 < np) : hMet l yX10_meet cX10_meet 6 (some .int) ({ frames := 4, cells := 0, slots := 0, locals := 90 }) D dT [.ref mo, .int (nI a), .int (nI b)] ah sz (fun r ah2 => r = some (.int (mMeet X Y (q 6) (q 7) a b).1) ∧ ah2 = hup ah mo (.inr (10, moF (upd (upd q 6 (mMeet X Y (q 6) (q 7) a b).2.1) 7 (mMeet X Y (q 6) (q 7) a b).2.2) AR))) 0 0 := by
  refine h_met (by decide) (Nat.le_of_ble_eq_true rfl) ?_
  intro p e s m below meth c ls R Q args hav hR hQ hB hl hsz hw
  obtain ⟨hx, hb, hml, hr, hts, hown, hlk, hin, hK⟩ := hB
  have hown : s.vm.findClass RX10 = some m.cls := hown
  have hl : lv_has ls 6 [(0, .ref mo), (1, .int (nI a)), (2, .int (nI b))] := hl
  have hnp := hX.1
  refine lv_aload_n hx hb dX10_meet_0 rfl (lv_at hl 0 rfl) ?_
  refine lv_iload_n hx hb dX10_meet_1 rfl (lv_at hl 1 rfl) ?_
  refine lv_iload_n hx hb dX10_meet_2 rfl (lv_at hl 1 rfl) ?_
  refine lv_iconst (v := 1) hx hb dX10_meet_3 (by decide) ?_
  refine lv_iadd hx hb dX10_meet_4 ?_
  refine lv_topi (fun t_1 et_1 => ?_)
  obtain rfl : t_1 = nI (a + 1) := et_1.trans (nI_c _ 1)
  refine lv_aload_n hx hb dX10_meet_5 rfl (lv_at hl 0 rfl) ?_
  refine h_get (ci := 10) (v := .ref (AR 9)) (C := RX10) (T := TX10) (N := 26) hx hb hts kl_X10 hown hK hw hm.1 rfl 14 (by decide) (hts _ kf_X10_37) rfl rfl dX10_meet_6 ?_
  refine lv_iload_n hx hb dX10_meet_9 rfl (lv_at hl 2 rfl) ?_
  refine h_iald hx hb hK hw (moA_a (n := 4096) (f := g 9) hm 9 (by decide) rfl rfl) b rfl (by omega) (by omega) dX10_meet_10 ?_
  rw [show (g 9) b = X b from (hX.2 _ (by omega)).1]
  refine lv_aload_n hx hb dX10_meet_11 rfl (lv_at hl 0 rfl) ?_
  refine h_get (ci := 10) (v := .ref (AR 10)) (C := RX10) (T := TX10) (N := 26) hx hb hts kl_X10 hown hK hw hm.1 rfl 15 (by decide) (hts _ kf_X10_40) rfl rfl dX10_meet_12 ?_
  refine lv_iload_n hx hb dX10_meet_15 rfl (lv_at hl 2 rfl) ?_
  refine h_iald hx hb hK hw (moA_a (n := 4096) (f := g 10) hm 10 (by decide) rfl rfl) b rfl (by omega) (by omega) dX10_meet_16 ?_
  rw [show (g 10) b = Y b from (hX.2 _ (by omega)).2]
  refine h_callV (n := 4) (ci := 10) (b := mo) (As := [.int (nI a), .int (nI (a + 1)), .int (X b), .int (Y b)]) (rest := []) ⟨hx, hb, hml, hown, hts⟩ hK hw (c_X10_side l D dT ah s.heap.size mo AR q g hm np X Y hX a (a + 1) (X b) (Y b) (by omega) (by omega)) ko_X10_side km_X10_96 ki_X10_side ks_X10_side kn_X10 (by decide +kernel) rfl hm.1 rfl hl.1 rfl (by simp [Value.category]) dX10_meet_17 (by rw [hR]; exact ⟨rfl, rfl, Nat.le_of_ble_eq_true rfl, Nat.le_of_ble_eq_true rfl, by simp, by simp⟩) (fun r_2 ah_3 H_4 L_5 st_6 hp hw hst => ?_)
  obtain ⟨rfl, rfl⟩ := hp
  have hst : st_6 = [.int (mSide X Y a (a + 1) (X b) (Y b))] := hst
  subst hst
  refine lv_istore_n (lv' := [(3, .int (mSide X Y a (a + 1) (X b) (Y b))), (0, .ref mo), (1, .int (nI a)), (2, .int (nI b))]) hx hb dX10_meet_20 rfl hl (by decide) rfl (fun ls hl => ?_)
  refine lv_aload_n hx hb dX10_meet_21 rfl (lv_at hl 1 rfl) ?_
  refine lv_iload_n hx hb dX10_meet_22 rfl (lv_at hl 2 rfl) ?_
  refine lv_iload_n hx hb dX10_meet_23 rfl (lv_at hl 2 rfl) ?_
  refine lv_iconst (v := 1) hx hb dX10_meet_24 (by decide) ?_
  refine lv_iadd hx hb dX10_meet_25 ?_
  refine lv_topi (fun t_7 et_7 => ?_)
  obtain rfl : t_7 = nI (a + 1) := et_7.trans (nI_c _ 1)
  refine lv_aload_n hx hb dX10_meet_26 rfl (lv_at hl 1 rfl) ?_
  refine h_get (ci := 10) (v := .ref (AR 9)) (C := RX10) (T := TX10) (N := 26) hx hb hts kl_X10 hown hK hw hm.1 rfl 14 (by decide) (hts _ kf_X10_37) rfl rfl dX10_meet_27 ?_
  refine lv_iload_n hx hb dX10_meet_30 rfl (lv_at hl 3 rfl) ?_
  refine lv_iconst (v := 1) hx hb dX10_meet_31 (by decide) ?_
  refine lv_iadd hx hb dX10_meet_32 ?_
  refine lv_topi (fun t_8 et_8 => ?_)
  obtain rfl : t_8 = nI (b + 1) := et_8.trans (nI_c _ 1)
  refine h_iald hx hb hK hw (moA_a (n := 4096) (f := g 9) hm 9 (by decide) rfl rfl) (b + 1) rfl (by omega) (by omega) dX10_meet_33 ?_
  rw [show (g 9) (b + 1) = X (b + 1) from (hX.2 _ (by omega)).1]
  refine lv_aload_n hx hb dX10_meet_34 rfl (lv_at hl 1 rfl) ?_
  refine h_get (ci := 10) (v := .ref (AR 10)) (C := RX10) (T := TX10) (N := 26) hx hb hts kl_X10 hown hK hw hm.1 rfl 15 (by decide) (hts _ kf_X10_40) rfl rfl dX10_meet_35 ?_
  refine lv_iload_n hx hb dX10_meet_38 rfl (lv_at hl 3 rfl) ?_
  refine lv_iconst (v := 1) hx hb dX10_meet_39 (by decide) ?_
  refine lv_iadd hx hb dX10_meet_40 ?_
  refine lv_topi (fun t_9 et_9 => ?_)
  obtain rfl : t_9 = nI (b + 1) := et_9.trans (nI_c _ 1)
  refine h_iald hx hb hK hw (moA_a (n := 4096) (f := g 10) hm 10 (by decide) rfl rfl) (b + 1) rfl (by omega) (by omega) dX10_meet_41 ?_
  rw [show (g 10) (b + 1) = Y (b + 1) from (hX.2 _ (by omega)).2]
  refine h_callV (n := 4) (ci := 10) (b := mo) (As := [.int (nI a), .int (nI (a + 1)), .int (X (b + 1)), .int (Y (b + 1))]) (rest := []) ⟨hx, hb, hml, hown, hts⟩ hK hw (c_X10_side l D dT ah H_4.size mo AR q g hm np X Y hX a (a + 1) (X (b + 1)) (Y (b + 1)) (by omega) (by omega)) ko_X10_side km_X10_96 ki_X10_side ks_X10_side kn_X10 (by decide +kernel) rfl hm.1 rfl hl.1 rfl (by simp [Value.category]) dX10_meet_42 (by rw [hR]; exact ⟨rfl, rfl, Nat.le_of_ble_eq_true rfl, Nat.le_of_ble_eq_true rfl, by simp, by simp⟩) (fun r_10 ah_11 H_12 L_13 st_14 hp hw hst => ?_)
  obtain ⟨rfl, rfl⟩ := hp
  have hst : st_14 = [.int (mSide X Y a (a + 1) (X (b + 1)) (Y (b + 1)))] := hst
  subst hst
  refine lv_istore (lv' := [(4, .int (mSide X Y a (a + 1) (X (b + 1)) (Y (b + 1)))), (3, .int (mSide X Y a (a + 1) (X b) (Y b))), (0, .ref mo), (1, .int (nI a)), (2, .int (nI b))]) hx hb dX10_meet_45 hl (by decide) rfl (fun ls hl => ?_)
  refine lv_iload_n hx hb dX10_meet_47 rfl (lv_at hl 1 rfl) ?_
  refine lv_if_ne (tgt := 77) hx hb dX10_meet_48 (by decide) (fun c_15 => ?_) (fun c_15 => ?_)
  · skip
    refine lv_iload_n hx hb dX10_meet_77 rfl (lv_at hl 1 rfl) ?_
    refine lv_iload hx hb dX10_meet_78 (lv_at hl 0 rfl) ?_
    refine lv_imul hx hb dX10_meet_80 ?_
    refine lv_if_ge (tgt := 134) hx hb dX10_meet_81 (by decide) (fun c_16 => ?_) (fun c_16 => ?_)
    · skip
      refine lv_aload_n hx hb dX10_meet_134 rfl (lv_at hl 2 rfl) ?_
      refine lv_iload_n hx hb dX10_meet_135 rfl (lv_at hl 3 rfl) ?_
      refine lv_iload_n hx hb dX10_meet_136 rfl (lv_at hl 4 rfl) ?_
      refine h_callV (n := 2) (ci := 10) (b := mo) (As := [.int (nI a), .int (nI b)]) (rest := []) ⟨hx, hb, hml, hown, hts⟩ hK hw (c_X10_meets l D dT ah H_12.size mo AR q g hm np X Y hX a b (by omega) (by omega)) ko_X10_meets km_X10_126 ki_X10_meets ks_X10_meets kn_X10 (by decide +kernel) rfl hm.1 rfl hl.1 rfl (by simp [Value.category]) dX10_meet_137 (by rw [hR]; exact ⟨rfl, rfl, Nat.le_of_ble_eq_true rfl, Nat.le_of_ble_eq_true rfl, by simp, by simp⟩) (fun r_18 ah_19 H_20 L_21 st_22 hp hw hst => ?_)
      rcases hp with ⟨c_17, rfl, rfl⟩ | ⟨c_17, rfl, eah_19⟩
      · skip
        have hst : st_22 = [.int 0] := hst
        subst hst
        refine lv_if_ne (tgt := 174) hx hb dX10_meet_140 (by decide) (fun c_23 => ?_) (fun c_23 => ?_)
        · exact absurd c_23 (by decide)
        · skip
          refine lv_aload_n hx hb dX10_meet_143 rfl (lv_at hl 2 rfl) ?_
          refine lv_iload_n hx hb dX10_meet_144 rfl (lv_at hl 3 rfl) ?_
          refine lv_iconst (v := 1) hx hb dX10_meet_145 (by decide) ?_
          refine lv_iadd hx hb dX10_meet_146 ?_
          refine lv_topi (fun t_24 et_24 => ?_)
          obtain rfl : t_24 = nI (a + 1) := et_24.trans (nI_c _ 1)
          refine lv_iload_n hx hb dX10_meet_147 rfl (lv_at hl 4 rfl) ?_
          refine h_callV (n := 2) (ci := 10) (b := mo) (As := [.int (nI (a + 1)), .int (nI b)]) (rest := []) ⟨hx, hb, hml, hown, hts⟩ hK hw (c_X10_meets l D dT ah H_20.size mo AR q g hm np X Y hX (a + 1) b (by omega) (by omega)) ko_X10_meets km_X10_126 ki_X10_meets ks_X10_meets kn_X10 (by decide +kernel) rfl hm.1 rfl hl.1 rfl (by simp [Value.category]) dX10_meet_148 (by rw [hR]; exact ⟨rfl, rfl, Nat.le_of_ble_eq_true rfl, Nat.le_of_ble_eq_true rfl, by simp, by simp⟩) (fun r_26 ah_27 H_28 L_29 st_30 hp hw hst => ?_)
          rcases hp with ⟨c_25, rfl, rfl⟩ | ⟨c_25, rfl, eah_27⟩
          · skip
            have hst : st_30 = [.int 0] := hst
            subst hst
            refine lv_if_ne (tgt := 174) hx hb dX10_meet_151 (by decide) (fun c_31 => ?_) (fun c_31 => ?_)
            · exact absurd c_31 (by decide)
            · skip
              refine lv_aload_n hx hb dX10_meet_154 rfl (lv_at hl 2 rfl) ?_
              refine lv_iload_n hx hb dX10_meet_155 rfl (lv_at hl 4 rfl) ?_
              refine lv_iload_n hx hb dX10_meet_156 rfl (lv_at hl 3 rfl) ?_
              refine h_callV (n := 2) (ci := 10) (b := mo) (As := [.int (nI b), .int (nI a)]) (rest := []) ⟨hx, hb, hml, hown, hts⟩ hK hw (c_X10_meets l D dT ah H_28.size mo AR q g hm np X Y hX b a (by omega) (by omega)) ko_X10_meets km_X10_126 ki_X10_meets ks_X10_meets kn_X10 (by decide +kernel) rfl hm.1 rfl hl.1 rfl (by simp [Value.category]) dX10_meet_157 (by rw [hR]; exact ⟨rfl, rfl, Nat.le_of_ble_eq_true rfl, Nat.le_of_ble_eq_true rfl, by simp, by simp⟩) (fun r_33 ah_34 H_35 L_36 st_37 hp hw hst => ?_)
              rcases hp with ⟨c_32, rfl, rfl⟩ | ⟨c_32, rfl, eah_34⟩
              · skip
                have hst : st_37 = [.int 0] := hst
                subst hst
                refine lv_if_ne (tgt := 174) hx hb dX10_meet_160 (by decide) (fun c_38 => ?_) (fun c_38 => ?_)
                · exact absurd c_38 (by decide)
                · skip
                  refine lv_aload_n hx hb dX10_meet_163 rfl (lv_at hl 2 rfl) ?_
                  refine lv_iload_n hx hb dX10_meet_164 rfl (lv_at hl 4 rfl) ?_
                  refine lv_iconst (v := 1) hx hb dX10_meet_165 (by decide) ?_
                  refine lv_iadd hx hb dX10_meet_166 ?_
                  refine lv_topi (fun t_39 et_39 => ?_)
                  obtain rfl : t_39 = nI (b + 1) := et_39.trans (nI_c _ 1)
                  refine lv_iload_n hx hb dX10_meet_167 rfl (lv_at hl 3 rfl) ?_
                  refine h_callV (n := 2) (ci := 10) (b := mo) (As := [.int (nI (b + 1)), .int (nI a)]) (rest := []) ⟨hx, hb, hml, hown, hts⟩ hK hw (c_X10_meets l D dT ah H_35.size mo AR q g hm np X Y hX (b + 1) a (by omega) (by omega)) ko_X10_meets km_X10_126 ki_X10_meets ks_X10_meets kn_X10 (by decide +kernel) rfl hm.1 rfl hl.1 rfl (by simp [Value.category]) dX10_meet_168 (by rw [hR]; exact ⟨rfl, rfl, Nat.le_of_ble_eq_true rfl, Nat.le_of_ble_eq_true rfl, by simp, by simp⟩) (fun r_41 ah_42 H_43 L_44 st_45 hp hw hst => ?_)
                  rcases hp with ⟨c_40, rfl, rfl⟩ | ⟨c_40, rfl, eah_42⟩
                  · skip
                    have hst : st_45 = [.int 0] := hst
                    subst hst
                    refine lv_if_eq (tgt := 178) hx hb dX10_meet_171 (by decide) (fun c_46 => ?_) (fun c_46 => ?_)
                    · skip
                      refine lv_iconst (v := 0) hx hb dX10_meet_178 (by decide) ?_
                      have hv : (0, q 6, q 7) = mMeet X Y (q 6) (q 7) a b := by
                        unfold mMeet
                        all_goals rw [if_neg c_15, if_pos c_16, if_pos c_17, if_pos c_25, if_pos c_32, if_pos c_40]
                      have hh : ah = hup ah mo (.inr (10, moF (upd (upd q 6 (q 6)) 7 (q 7)) AR)) := by first | exact (moA_id hm rfl).symm | (subst_vars; simp only [hup_hup])
                      rw [hQ]
                      exact h_iret hx hb hr hlk hsz hw (by simp) (by simp) dX10_meet_179 ⟨congrArg (a₁ := (0, q 6, q 7)) (a₂ := mMeet X Y (q 6) (q 7) a b) (fun z : Int32 × Int32 × Int32 => some (Value.int z.1)) hv, hh.trans (congrArg (a₁ := (0, q 6, q 7)) (a₂ := mMeet X Y (q 6) (q 7) a b) (fun z : Int32 × Int32 × Int32 => hup ah mo (.inr (10, moF (upd (upd q 6 z.2.1) 7 z.2.2) AR))) hv)⟩
                    · exact absurd c_46 (by decide)
                  · skip
                    have hm_47 : moA dT ah_42 mo AR (upd (upd q 6 (X (b + 1))) 7 (Y (b + 1))) g := moA_q hm eah_42
                    have hst : st_45 = [.int 1] := hst
                    subst hst
                    refine lv_if_eq (tgt := 178) hx hb dX10_meet_171 (by decide) (fun c_48 => ?_) (fun c_48 => ?_)
                    · exact absurd c_48 (by decide)
                    · skip
                      refine lv_iconst (v := 1) hx hb dX10_meet_174 (by decide) ?_
                      refine lv_goto (tgt := 179) hx hb dX10_meet_175 (by decide) ?_
                      have hv : (1, X (b + 1), Y (b + 1)) = mMeet X Y (q 6) (q 7) a b := by
                        unfold mMeet
                        all_goals rw [if_neg c_15, if_pos c_16, if_pos c_17, if_pos c_25, if_pos c_32, if_neg c_40]
                      have hh : ah_42 = hup ah mo (.inr (10, moF (upd (upd q 6 (X (b + 1))) 7 (Y (b + 1))) AR)) := by first | exact (moA_id hm rfl).symm | (subst_vars; simp only [hup_hup])
                      rw [hQ]
                      exact h_iret hx hb hr hlk hsz hw (by simp) (by simp) dX10_meet_179 ⟨congrArg (a₁ := (1, X (b + 1), Y (b + 1))) (a₂ := mMeet X Y (q 6) (q 7) a b) (fun z : Int32 × Int32 × Int32 => some (Value.int z.1)) hv, hh.trans (congrArg (a₁ := (1, X (b + 1), Y (b + 1))) (a₂ := mMeet X Y (q 6) (q 7) a b) (fun z : Int32 × Int32 × Int32 => hup ah mo (.inr (10, moF (upd (upd q 6 z.2.1) 7 z.2.2) AR))) hv)⟩
              · skip
                have hm_49 : moA dT ah_34 mo AR (upd (upd q 6 (X b)) 7 (Y b)) g := moA_q hm eah_34
                have hst : st_37 = [.int 1] := hst
                subst hst
                refine lv_if_ne (tgt := 174) hx hb dX10_meet_160 (by decide) (fun c_50 => ?_) (fun c_50 => ?_)
                · skip
                  refine lv_iconst (v := 1) hx hb dX10_meet_174 (by decide) ?_
                  refine lv_goto (tgt := 179) hx hb dX10_meet_175 (by decide) ?_
                  have hv : (1, X b, Y b) = mMeet X Y (q 6) (q 7) a b := by
                    unfold mMeet
                    all_goals rw [if_neg c_15, if_pos c_16, if_pos c_17, if_pos c_25, if_neg c_32]
                  have hh : ah_34 = hup ah mo (.inr (10, moF (upd (upd q 6 (X b)) 7 (Y b)) AR)) := by first | exact (moA_id hm rfl).symm | (subst_vars; simp only [hup_hup])
                  rw [hQ]
                  exact h_iret hx hb hr hlk hsz hw (by simp) (by simp) dX10_meet_179 ⟨congrArg (a₁ := (1, X b, Y b)) (a₂ := mMeet X Y (q 6) (q 7) a b) (fun z : Int32 × Int32 × Int32 => some (Value.int z.1)) hv, hh.trans (congrArg (a₁ := (1, X b, Y b)) (a₂ := mMeet X Y (q 6) (q 7) a b) (fun z : Int32 × Int32 × Int32 => hup ah mo (.inr (10, moF (upd (upd q 6 z.2.1) 7 z.2.2) AR))) hv)⟩
                · exact absurd c_50 (by decide)
          · skip
            have hm_51 : moA dT ah_27 mo AR (upd (upd q 6 (X (a + 1))) 7 (Y (a + 1))) g := moA_q hm eah_27
            have hst : st_30 = [.int 1] := hst
            subst hst
            refine lv_if_ne (tgt := 174) hx hb dX10_meet_151 (by decide) (fun c_52 => ?_) (fun c_52 => ?_)
            · skip
              refine lv_iconst (v := 1) hx hb dX10_meet_174 (by decide) ?_
              refine lv_goto (tgt := 179) hx hb dX10_meet_175 (by decide) ?_
              have hv : (1, X (a + 1), Y (a + 1)) = mMeet X Y (q 6) (q 7) a b := by
                unfold mMeet
                all_goals rw [if_neg c_15, if_pos c_16, if_pos c_17, if_neg c_25]
              have hh : ah_27 = hup ah mo (.inr (10, moF (upd (upd q 6 (X (a + 1))) 7 (Y (a + 1))) AR)) := by first | exact (moA_id hm rfl).symm | (subst_vars; simp only [hup_hup])
              rw [hQ]
              exact h_iret hx hb hr hlk hsz hw (by simp) (by simp) dX10_meet_179 ⟨congrArg (a₁ := (1, X (a + 1), Y (a + 1))) (a₂ := mMeet X Y (q 6) (q 7) a b) (fun z : Int32 × Int32 × Int32 => some (Value.int z.1)) hv, hh.trans (congrArg (a₁ := (1, X (a + 1), Y (a + 1))) (a₂ := mMeet X Y (q 6) (q 7) a b) (fun z : Int32 × Int32 × Int32 => hup ah mo (.inr (10, moF (upd (upd q 6 z.2.1) 7 z.2.2) AR))) hv)⟩
            · exact absurd c_52 (by decide)
      · skip
        have hm_53 : moA dT ah_19 mo AR (upd (upd q 6 (X a)) 7 (Y a)) g := moA_q hm eah_19
        have hst : st_22 = [.int 1] := hst
        subst hst
        refine lv_if_ne (tgt := 174) hx hb dX10_meet_140 (by decide) (fun c_54 => ?_) (fun c_54 => ?_)
        · skip
          refine lv_iconst (v := 1) hx hb dX10_meet_174 (by decide) ?_
          refine lv_goto (tgt := 179) hx hb dX10_meet_175 (by decide) ?_
          have hv : (1, X a, Y a) = mMeet X Y (q 6) (q 7) a b := by
            unfold mMeet
            all_goals rw [if_neg c_15, if_pos c_16, if_neg c_17]
          have hh : ah_19 = hup ah mo (.inr (10, moF (upd (upd q 6 (X a)) 7 (Y a)) AR)) := by first | exact (moA_id hm rfl).symm | (subst_vars; simp only [hup_hup])
          rw [hQ]
          exact h_iret hx hb hr hlk hsz hw (by simp) (by simp) dX10_meet_179 ⟨congrArg (a₁ := (1, X a, Y a)) (a₂ := mMeet X Y (q 6) (q 7) a b) (fun z : Int32 × Int32 × Int32 => some (Value.int z.1)) hv, hh.trans (congrArg (a₁ := (1, X a, Y a)) (a₂ := mMeet X Y (q 6) (q 7) a b) (fun z : Int32 × Int32 × Int32 => hup ah mo (.inr (10, moF (upd (upd q 6 z.2.1) 7 z.2.2) AR))) hv)⟩
        · exact absurd c_54 (by decide)
    · skip
      refine lv_aload_n hx hb dX10_meet_84 rfl (lv_at hl 2 rfl) ?_
      refine lv_iload_n hx hb dX10_meet_85 rfl (lv_at hl 4 rfl) ?_
      refine lv_iload_n hx hb dX10_meet_86 rfl (lv_at hl 4 rfl) ?_
      refine lv_iconst (v := 1) hx hb dX10_meet_87 (by decide) ?_
      refine lv_iadd hx hb dX10_meet_88 ?_
      refine lv_topi (fun t_55 et_55 => ?_)
      obtain rfl : t_55 = nI (b + 1) := et_55.trans (nI_c _ 1)
      refine lv_aload_n hx hb dX10_meet_89 rfl (lv_at hl 2 rfl) ?_
      refine h_get (ci := 10) (v := .ref (AR 9)) (C := RX10) (T := TX10) (N := 26) hx hb hts kl_X10 hown hK hw hm.1 rfl 14 (by decide) (hts _ kf_X10_37) rfl rfl dX10_meet_90 ?_
      refine lv_iload_n hx hb dX10_meet_93 rfl (lv_at hl 3 rfl) ?_
      refine h_iald hx hb hK hw (moA_a (n := 4096) (f := g 9) hm 9 (by decide) rfl rfl) a rfl (by omega) (by omega) dX10_meet_94 ?_
      rw [show (g 9) a = X a from (hX.2 _ (by omega)).1]
      refine lv_aload_n hx hb dX10_meet_95 rfl (lv_at hl 2 rfl) ?_
      refine h_get (ci := 10) (v := .ref (AR 10)) (C := RX10) (T := TX10) (N := 26) hx hb hts kl_X10 hown hK hw hm.1 rfl 15 (by decide) (hts _ kf_X10_40) rfl rfl dX10_meet_96 ?_
      refine lv_iload_n hx hb dX10_meet_99 rfl (lv_at hl 3 rfl) ?_
      refine h_iald hx hb hK hw (moA_a (n := 4096) (f := g 10) hm 10 (by decide) rfl rfl) a rfl (by omega) (by omega) dX10_meet_100 ?_
      rw [show (g 10) a = Y a from (hX.2 _ (by omega)).2]
      refine h_callV (n := 4) (ci := 10) (b := mo) (As := [.int (nI b), .int (nI (b + 1)), .int (X a), .int (Y a)]) (rest := []) ⟨hx, hb, hml, hown, hts⟩ hK hw (c_X10_side l D dT ah H_12.size mo AR q g hm np X Y hX b (b + 1) (X a) (Y a) (by omega) (by omega)) ko_X10_side km_X10_96 ki_X10_side ks_X10_side kn_X10 (by decide +kernel) rfl hm.1 rfl hl.1 rfl (by simp [Value.category]) dX10_meet_101 (by rw [hR]; exact ⟨rfl, rfl, Nat.le_of_ble_eq_true rfl, Nat.le_of_ble_eq_true rfl, by simp, by simp⟩) (fun r_56 ah_57 H_58 L_59 st_60 hp hw hst => ?_)
      obtain ⟨rfl, rfl⟩ := hp
      have hst : st_60 = [.int (mSide X Y b (b + 1) (X a) (Y a))] := hst
      subst hst
      refine lv_aload_n hx hb dX10_meet_104 rfl (lv_at hl 2 rfl) ?_
      refine lv_iload_n hx hb dX10_meet_105 rfl (lv_at hl 4 rfl) ?_
      refine lv_iload_n hx hb dX10_meet_106 rfl (lv_at hl 4 rfl) ?_
      refine lv_iconst (v := 1) hx hb dX10_meet_107 (by decide) ?_
      refine lv_iadd hx hb dX10_meet_108 ?_
      refine lv_topi (fun t_61 et_61 => ?_)
      obtain rfl : t_61 = nI (b + 1) := et_61.trans (nI_c _ 1)
      refine lv_aload_n hx hb dX10_meet_109 rfl (lv_at hl 2 rfl) ?_
      refine h_get (ci := 10) (v := .ref (AR 9)) (C := RX10) (T := TX10) (N := 26) hx hb hts kl_X10 hown hK hw hm.1 rfl 14 (by decide) (hts _ kf_X10_37) rfl rfl dX10_meet_110 ?_
      refine lv_iload_n hx hb dX10_meet_113 rfl (lv_at hl 3 rfl) ?_
      refine lv_iconst (v := 1) hx hb dX10_meet_114 (by decide) ?_
      refine lv_iadd hx hb dX10_meet_115 ?_
      refine lv_topi (fun t_62 et_62 => ?_)
      obtain rfl : t_62 = nI (a + 1) := et_62.trans (nI_c _ 1)
      refine h_iald hx hb hK hw (moA_a (n := 4096) (f := g 9) hm 9 (by decide) rfl rfl) (a + 1) rfl (by omega) (by omega) dX10_meet_116 ?_
      rw [show (g 9) (a + 1) = X (a + 1) from (hX.2 _ (by omega)).1]
      refine lv_aload_n hx hb dX10_meet_117 rfl (lv_at hl 2 rfl) ?_
      refine h_get (ci := 10) (v := .ref (AR 10)) (C := RX10) (T := TX10) (N := 26) hx hb hts kl_X10 hown hK hw hm.1 rfl 15 (by decide) (hts _ kf_X10_40) rfl rfl dX10_meet_118 ?_
      refine lv_iload_n hx hb dX10_meet_121 rfl (lv_at hl 3 rfl) ?_
      refine lv_iconst (v := 1) hx hb dX10_meet_122 (by decide) ?_
      refine lv_iadd hx hb dX10_meet_123 ?_
      refine lv_topi (fun t_63 et_63 => ?_)
      obtain rfl : t_63 = nI (a + 1) := et_63.trans (nI_c _ 1)
      refine h_iald hx hb hK hw (moA_a (n := 4096) (f := g 10) hm 10 (by decide) rfl rfl) (a + 1) rfl (by omega) (by omega) dX10_meet_124 ?_
      rw [show (g 10) (a + 1) = Y (a + 1) from (hX.2 _ (by omega)).2]
      refine h_callV (n := 4) (ci := 10) (b := mo) (As := [.int (nI b), .int (nI (b + 1)), .int (X (a + 1)), .int (Y (a + 1))]) (rest := [.int (mSide X Y b (b + 1) (X a) (Y a))]) ⟨hx, hb, hml, hown, hts⟩ hK hw (c_X10_side l D dT ah H_58.size mo AR q g hm np X Y hX b (b + 1) (X (a + 1)) (Y (a + 1)) (by omega) (by omega)) ko_X10_side km_X10_96 ki_X10_side ks_X10_side kn_X10 (by decide +kernel) rfl hm.1 rfl hl.1 rfl (by simp [Value.category]) dX10_meet_125 (by rw [hR]; exact ⟨rfl, rfl, Nat.le_of_ble_eq_true rfl, Nat.le_of_ble_eq_true rfl, by simp, by simp⟩) (fun r_64 ah_65 H_66 L_67 st_68 hp hw hst => ?_)
      obtain ⟨rfl, rfl⟩ := hp
      have hst : st_68 = [.int (mSide X Y b (b + 1) (X (a + 1)) (Y (a + 1))), .int (mSide X Y b (b + 1) (X a) (Y a))] := hst
      subst hst
      refine lv_imul hx hb dX10_meet_128 ?_
      refine lv_if_ge (tgt := 134) hx hb dX10_meet_129 (by decide) (fun c_69 => ?_) (fun c_69 => ?_)
      · skip
        refine lv_aload_n hx hb dX10_meet_134 rfl (lv_at hl 2 rfl) ?_
        refine lv_iload_n hx hb dX10_meet_135 rfl (lv_at hl 3 rfl) ?_
        refine lv_iload_n hx hb dX10_meet_136 rfl (lv_at hl 4 rfl) ?_
        refine h_callV (n := 2) (ci := 10) (b := mo) (As := [.int (nI a), .int (nI b)]) (rest := []) ⟨hx, hb, hml, hown, hts⟩ hK hw (c_X10_meets l D dT ah H_66.size mo AR q g hm np X Y hX a b (by omega) (by omega)) ko_X10_meets km_X10_126 ki_X10_meets ks_X10_meets kn_X10 (by decide +kernel) rfl hm.1 rfl hl.1 rfl (by simp [Value.category]) dX10_meet_137 (by rw [hR]; exact ⟨rfl, rfl, Nat.le_of_ble_eq_true rfl, Nat.le_of_ble_eq_true rfl, by simp, by simp⟩) (fun r_71 ah_72 H_73 L_74 st_75 hp hw hst => ?_)
        rcases hp with ⟨c_70, rfl, rfl⟩ | ⟨c_70, rfl, eah_72⟩
        · skip
          have hst : st_75 = [.int 0] := hst
          subst hst
          refine lv_if_ne (tgt := 174) hx hb dX10_meet_140 (by decide) (fun c_76 => ?_) (fun c_76 => ?_)
          · exact absurd c_76 (by decide)
          · skip
            refine lv_aload_n hx hb dX10_meet_143 rfl (lv_at hl 2 rfl) ?_
            refine lv_iload_n hx hb dX10_meet_144 rfl (lv_at hl 3 rfl) ?_
            refine lv_iconst (v := 1) hx hb dX10_meet_145 (by decide) ?_
            refine lv_iadd hx hb dX10_meet_146 ?_
            refine lv_topi (fun t_77 et_77 => ?_)
            obtain rfl : t_77 = nI (a + 1) := et_77.trans (nI_c _ 1)
            refine lv_iload_n hx hb dX10_meet_147 rfl (lv_at hl 4 rfl) ?_
            refine h_callV (n := 2) (ci := 10) (b := mo) (As := [.int (nI (a + 1)), .int (nI b)]) (rest := []) ⟨hx, hb, hml, hown, hts⟩ hK hw (c_X10_meets l D dT ah H_73.size mo AR q g hm np X Y hX (a + 1) b (by omega) (by omega)) ko_X10_meets km_X10_126 ki_X10_meets ks_X10_meets kn_X10 (by decide +kernel) rfl hm.1 rfl hl.1 rfl (by simp [Value.category]) dX10_meet_148 (by rw [hR]; exact ⟨rfl, rfl, Nat.le_of_ble_eq_true rfl, Nat.le_of_ble_eq_true rfl, by simp, by simp⟩) (fun r_79 ah_80 H_81 L_82 st_83 hp hw hst => ?_)
            rcases hp with ⟨c_78, rfl, rfl⟩ | ⟨c_78, rfl, eah_80⟩
            · skip
              have hst : st_83 = [.int 0] := hst
              subst hst
              refine lv_if_ne (tgt := 174) hx hb dX10_meet_151 (by decide) (fun c_84 => ?_) (fun c_84 => ?_)
              · exact absurd c_84 (by decide)
              · skip
                refine lv_aload_n hx hb dX10_meet_154 rfl (lv_at hl 2 rfl) ?_
                refine lv_iload_n hx hb dX10_meet_155 rfl (lv_at hl 4 rfl) ?_
                refine lv_iload_n hx hb dX10_meet_156 rfl (lv_at hl 3 rfl) ?_
                refine h_callV (n := 2) (ci := 10) (b := mo) (As := [.int (nI b), .int (nI a)]) (rest := []) ⟨hx, hb, hml, hown, hts⟩ hK hw (c_X10_meets l D dT ah H_81.size mo AR q g hm np X Y hX b a (by omega) (by omega)) ko_X10_meets km_X10_126 ki_X10_meets ks_X10_meets kn_X10 (by decide +kernel) rfl hm.1 rfl hl.1 rfl (by simp [Value.category]) dX10_meet_157 (by rw [hR]; exact ⟨rfl, rfl, Nat.le_of_ble_eq_true rfl, Nat.le_of_ble_eq_true rfl, by simp, by simp⟩) (fun r_86 ah_87 H_88 L_89 st_90 hp hw hst => ?_)
                rcases hp with ⟨c_85, rfl, rfl⟩ | ⟨c_85, rfl, eah_87⟩
                · skip
                  have hst : st_90 = [.int 0] := hst
                  subst hst
                  refine lv_if_ne (tgt := 174) hx hb dX10_meet_160 (by decide) (fun c_91 => ?_) (fun c_91 => ?_)
                  · exact absurd c_91 (by decide)
                  · skip
                    refine lv_aload_n hx hb dX10_meet_163 rfl (lv_at hl 2 rfl) ?_
                    refine lv_iload_n hx hb dX10_meet_164 rfl (lv_at hl 4 rfl) ?_
                    refine lv_iconst (v := 1) hx hb dX10_meet_165 (by decide) ?_
                    refine lv_iadd hx hb dX10_meet_166 ?_
                    refine lv_topi (fun t_92 et_92 => ?_)
                    obtain rfl : t_92 = nI (b + 1) := et_92.trans (nI_c _ 1)
                    refine lv_iload_n hx hb dX10_meet_167 rfl (lv_at hl 3 rfl) ?_
                    refine h_callV (n := 2) (ci := 10) (b := mo) (As := [.int (nI (b + 1)), .int (nI a)]) (rest := []) ⟨hx, hb, hml, hown, hts⟩ hK hw (c_X10_meets l D dT ah H_88.size mo AR q g hm np X Y hX (b + 1) a (by omega) (by omega)) ko_X10_meets km_X10_126 ki_X10_meets ks_X10_meets kn_X10 (by decide +kernel) rfl hm.1 rfl hl.1 rfl (by simp [Value.category]) dX10_meet_168 (by rw [hR]; exact ⟨rfl, rfl, Nat.le_of_ble_eq_true rfl, Nat.le_of_ble_eq_true rfl, by simp, by simp⟩) (fun r_94 ah_95 H_96 L_97 st_98 hp hw hst => ?_)
                    rcases hp with ⟨c_93, rfl, rfl⟩ | ⟨c_93, rfl, eah_95⟩
                    · skip
                      have hst : st_98 = [.int 0] := hst
                      subst hst
                      refine lv_if_eq (tgt := 178) hx hb dX10_meet_171 (by decide) (fun c_99 => ?_) (fun c_99 => ?_)
                      · skip
                        refine lv_iconst (v := 0) hx hb dX10_meet_178 (by decide) ?_
                        have hv : (0, q 6, q 7) = mMeet X Y (q 6) (q 7) a b := by
                          unfold mMeet
                          all_goals rw [if_neg c_15, if_neg c_16, if_pos c_69, if_pos c_70, if_pos c_78, if_pos c_85, if_pos c_93]
                        have hh : ah = hup ah mo (.inr (10, moF (upd (upd q 6 (q 6)) 7 (q 7)) AR)) := by first | exact (moA_id hm rfl).symm | (subst_vars; simp only [hup_hup])
                        rw [hQ]
                        exact h_iret hx hb hr hlk hsz hw (by simp) (by simp) dX10_meet_179 ⟨congrArg (a₁ := (0, q 6, q 7)) (a₂ := mMeet X Y (q 6) (q 7) a b) (fun z : Int32 × Int32 × Int32 => some (Value.int z.1)) hv, hh.trans (congrArg (a₁ := (0, q 6, q 7)) (a₂ := mMeet X Y (q 6) (q 7) a b) (fun z : Int32 × Int32 × Int32 => hup ah mo (.inr (10, moF (upd (upd q 6 z.2.1) 7 z.2.2) AR))) hv)⟩
                      · exact absurd c_99 (by decide)
                    · skip
                      have hm_100 : moA dT ah_95 mo AR (upd (upd q 6 (X (b + 1))) 7 (Y (b + 1))) g := moA_q hm eah_95
                      have hst : st_98 = [.int 1] := hst
                      subst hst
                      refine lv_if_eq (tgt := 178) hx hb dX10_meet_171 (by decide) (fun c_101 => ?_) (fun c_101 => ?_)
                      · exact absurd c_101 (by decide)
                      · skip
                        refine lv_iconst (v := 1) hx hb dX10_meet_174 (by decide) ?_
                        refine lv_goto (tgt := 179) hx hb dX10_meet_175 (by decide) ?_
                        have hv : (1, X (b + 1), Y (b + 1)) = mMeet X Y (q 6) (q 7) a b := by
                          unfold mMeet
                          all_goals rw [if_neg c_15, if_neg c_16, if_pos c_69, if_pos c_70, if_pos c_78, if_pos c_85, if_neg c_93]
                        have hh : ah_95 = hup ah mo (.inr (10, moF (upd (upd q 6 (X (b + 1))) 7 (Y (b + 1))) AR)) := by first | exact (moA_id hm rfl).symm | (subst_vars; simp only [hup_hup])
                        rw [hQ]
                        exact h_iret hx hb hr hlk hsz hw (by simp) (by simp) dX10_meet_179 ⟨congrArg (a₁ := (1, X (b + 1), Y (b + 1))) (a₂ := mMeet X Y (q 6) (q 7) a b) (fun z : Int32 × Int32 × Int32 => some (Value.int z.1)) hv, hh.trans (congrArg (a₁ := (1, X (b + 1), Y (b + 1))) (a₂ := mMeet X Y (q 6) (q 7) a b) (fun z : Int32 × Int32 × Int32 => hup ah mo (.inr (10, moF (upd (upd q 6 z.2.1) 7 z.2.2) AR))) hv)⟩
                · skip
                  have hm_102 : moA dT ah_87 mo AR (upd (upd q 6 (X b)) 7 (Y b)) g := moA_q hm eah_87
                  have hst : st_90 = [.int 1] := hst
                  subst hst
                  refine lv_if_ne (tgt := 174) hx hb dX10_meet_160 (by decide) (fun c_103 => ?_) (fun c_103 => ?_)
                  · skip
                    refine lv_iconst (v := 1) hx hb dX10_meet_174 (by decide) ?_
                    refine lv_goto (tgt := 179) hx hb dX10_meet_175 (by decide) ?_
                    have hv : (1, X b, Y b) = mMeet X Y (q 6) (q 7) a b := by
                      unfold mMeet
                      all_goals rw [if_neg c_15, if_neg c_16, if_pos c_69, if_pos c_70, if_pos c_78, if_neg c_85]
                    have hh : ah_87 = hup ah mo (.inr (10, moF (upd (upd q 6 (X b)) 7 (Y b)) AR)) := by first | exact (moA_id hm rfl).symm | (subst_vars; simp only [hup_hup])
                    rw [hQ]
                    exact h_iret hx hb hr hlk hsz hw (by simp) (by simp) dX10_meet_179 ⟨congrArg (a₁ := (1, X b, Y b)) (a₂ := mMeet X Y (q 6) (q 7) a b) (fun z : Int32 × Int32 × Int32 => some (Value.int z.1)) hv, hh.trans (congrArg (a₁ := (1, X b, Y b)) (a₂ := mMeet X Y (q 6) (q 7) a b) (fun z : Int32 × Int32 × Int32 => hup ah mo (.inr (10, moF (upd (upd q 6 z.2.1) 7 z.2.2) AR))) hv)⟩
                  · exact absurd c_103 (by decide)
            · skip
              have hm_104 : moA dT ah_80 mo AR (upd (upd q 6 (X (a + 1))) 7 (Y (a + 1))) g := moA_q hm eah_80
              have hst : st_83 = [.int 1] := hst
              subst hst
              refine lv_if_ne (tgt := 174) hx hb dX10_meet_151 (by decide) (fun c_105 => ?_) (fun c_105 => ?_)
              · skip
                refine lv_iconst (v := 1) hx hb dX10_meet_174 (by decide) ?_
                refine lv_goto (tgt := 179) hx hb dX10_meet_175 (by decide) ?_
                have hv : (1, X (a + 1), Y (a + 1)) = mMeet X Y (q 6) (q 7) a b := by
                  unfold mMeet
                  all_goals rw [if_neg c_15, if_neg c_16, if_pos c_69, if_pos c_70, if_neg c_78]
                have hh : ah_80 = hup ah mo (.inr (10, moF (upd (upd q 6 (X (a + 1))) 7 (Y (a + 1))) AR)) := by first | exact (moA_id hm rfl).symm | (subst_vars; simp only [hup_hup])
                rw [hQ]
                exact h_iret hx hb hr hlk hsz hw (by simp) (by simp) dX10_meet_179 ⟨congrArg (a₁ := (1, X (a + 1), Y (a + 1))) (a₂ := mMeet X Y (q 6) (q 7) a b) (fun z : Int32 × Int32 × Int32 => some (Value.int z.1)) hv, hh.trans (congrArg (a₁ := (1, X (a + 1), Y (a + 1))) (a₂ := mMeet X Y (q 6) (q 7) a b) (fun z : Int32 × Int32 × Int32 => hup ah mo (.inr (10, moF (upd (upd q 6 z.2.1) 7 z.2.2) AR))) hv)⟩
              · exact absurd c_105 (by decide)
        · skip
          have hm_106 : moA dT ah_72 mo AR (upd (upd q 6 (X a)) 7 (Y a)) g := moA_q hm eah_72
          have hst : st_75 = [.int 1] := hst
          subst hst
          refine lv_if_ne (tgt := 174) hx hb dX10_meet_140 (by decide) (fun c_107 => ?_) (fun c_107 => ?_)
          · skip
            refine lv_iconst (v := 1) hx hb dX10_meet_174 (by decide) ?_
            refine lv_goto (tgt := 179) hx hb dX10_meet_175 (by decide) ?_
            have hv : (1, X a, Y a) = mMeet X Y (q 6) (q 7) a b := by
              unfold mMeet
              all_goals rw [if_neg c_15, if_neg c_16, if_pos c_69, if_neg c_70]
            have hh : ah_72 = hup ah mo (.inr (10, moF (upd (upd q 6 (X a)) 7 (Y a)) AR)) := by first | exact (moA_id hm rfl).symm | (subst_vars; simp only [hup_hup])
            rw [hQ]
            exact h_iret hx hb hr hlk hsz hw (by simp) (by simp) dX10_meet_179 ⟨congrArg (a₁ := (1, X a, Y a)) (a₂ := mMeet X Y (q 6) (q 7) a b) (fun z : Int32 × Int32 × Int32 => some (Value.int z.1)) hv, hh.trans (congrArg (a₁ := (1, X a, Y a)) (a₂ := mMeet X Y (q 6) (q 7) a b) (fun z : Int32 × Int32 × Int32 => hup ah mo (.inr (10, moF (upd (upd q 6 z.2.1) 7 z.2.2) AR))) hv)⟩
          · exact absurd c_107 (by decide)
      · skip
        refine lv_iconst (v := 2) hx hb dX10_meet_132 (by decide) ?_
        have hv : (2, q 6, q 7) = mMeet X Y (q 6) (q 7) a b := by
          unfold mMeet
          all_goals rw [if_neg c_15, if_neg c_16, if_neg c_69]
        have hh : ah = hup ah mo (.inr (10, moF (upd (upd q 6 (q 6)) 7 (q 7)) AR)) := by first | exact (moA_id hm rfl).symm | (subst_vars; simp only [hup_hup])
        rw [hQ]
        exact h_iret hx hb hr hlk hsz hw (by simp) (by simp) dX10_meet_133 ⟨congrArg (a₁ := (2, q 6, q 7)) (a₂ := mMeet X Y (q 6) (q 7) a b) (fun z : Int32 × Int32 × Int32 => some (Value.int z.1)) hv, hh.trans (congrArg (a₁ := (2, q 6, q 7)) (a₂ := mMeet X Y (q 6) (q 7) a b) (fun z : Int32 × Int32 × Int32 => hup ah mo (.inr (10, moF (upd (upd q 6 z.2.1) 7 z.2.2) AR))) hv)⟩
  · skip
    refine lv_iload hx hb dX10_meet_51 (lv_at hl 0 rfl) ?_
    refine lv_if_ne (tgt := 77) hx hb dX10_meet_53 (by decide) (fun c_108 => ?_) (fun c_108 => ?_)
    · skip
      refine lv_iload_n hx hb dX10_meet_77 rfl (lv_at hl 1 rfl) ?_
      refine lv_iload hx hb dX10_meet_78 (lv_at hl 0 rfl) ?_
      refine lv_imul hx hb dX10_meet_80 ?_
      refine lv_if_ge (tgt := 134) hx hb dX10_meet_81 (by decide) (fun c_109 => ?_) (fun c_109 => ?_)
      · skip
        refine lv_aload_n hx hb dX10_meet_134 rfl (lv_at hl 2 rfl) ?_
        refine lv_iload_n hx hb dX10_meet_135 rfl (lv_at hl 3 rfl) ?_
        refine lv_iload_n hx hb dX10_meet_136 rfl (lv_at hl 4 rfl) ?_
        refine h_callV (n := 2) (ci := 10) (b := mo) (As := [.int (nI a), .int (nI b)]) (rest := []) ⟨hx, hb, hml, hown, hts⟩ hK hw (c_X10_meets l D dT ah H_12.size mo AR q g hm np X Y hX a b (by omega) (by omega)) ko_X10_meets km_X10_126 ki_X10_meets ks_X10_meets kn_X10 (by decide +kernel) rfl hm.1 rfl hl.1 rfl (by simp [Value.category]) dX10_meet_137 (by rw [hR]; exact ⟨rfl, rfl, Nat.le_of_ble_eq_true rfl, Nat.le_of_ble_eq_true rfl, by simp, by simp⟩) (fun r_111 ah_112 H_113 L_114 st_115 hp hw hst => ?_)
        rcases hp with ⟨c_110, rfl, rfl⟩ | ⟨c_110, rfl, eah_112⟩
        · skip
          have hst : st_115 = [.int 0] := hst
          subst hst
          refine lv_if_ne (tgt := 174) hx hb dX10_meet_140 (by decide) (fun c_116 => ?_) (fun c_116 => ?_)
          · exact absurd c_116 (by decide)
          · skip
            refine lv_aload_n hx hb dX10_meet_143 rfl (lv_at hl 2 rfl) ?_
            refine lv_iload_n hx hb dX10_meet_144 rfl (lv_at hl 3 rfl) ?_
            refine lv_iconst (v := 1) hx hb dX10_meet_145 (by decide) ?_
            refine lv_iadd hx hb dX10_meet_146 ?_
            refine lv_topi (fun t_117 et_117 => ?_)
            obtain rfl : t_117 = nI (a + 1) := et_117.trans (nI_c _ 1)
            refine lv_iload_n hx hb dX10_meet_147 rfl (lv_at hl 4 rfl) ?_
            refine h_callV (n := 2) (ci := 10) (b := mo) (As := [.int (nI (a + 1)), .int (nI b)]) (rest := []) ⟨hx, hb, hml, hown, hts⟩ hK hw (c_X10_meets l D dT ah H_113.size mo AR q g hm np X Y hX (a + 1) b (by omega) (by omega)) ko_X10_meets km_X10_126 ki_X10_meets ks_X10_meets kn_X10 (by decide +kernel) rfl hm.1 rfl hl.1 rfl (by simp [Value.category]) dX10_meet_148 (by rw [hR]; exact ⟨rfl, rfl, Nat.le_of_ble_eq_true rfl, Nat.le_of_ble_eq_true rfl, by simp, by simp⟩) (fun r_119 ah_120 H_121 L_122 st_123 hp hw hst => ?_)
            rcases hp with ⟨c_118, rfl, rfl⟩ | ⟨c_118, rfl, eah_120⟩
            · skip
              have hst : st_123 = [.int 0] := hst
              subst hst
              refine lv_if_ne (tgt := 174) hx hb dX10_meet_151 (by decide) (fun c_124 => ?_) (fun c_124 => ?_)
              · exact absurd c_124 (by decide)
              · skip
                refine lv_aload_n hx hb dX10_meet_154 rfl (lv_at hl 2 rfl) ?_
                refine lv_iload_n hx hb dX10_meet_155 rfl (lv_at hl 4 rfl) ?_
                refine lv_iload_n hx hb dX10_meet_156 rfl (lv_at hl 3 rfl) ?_
                refine h_callV (n := 2) (ci := 10) (b := mo) (As := [.int (nI b), .int (nI a)]) (rest := []) ⟨hx, hb, hml, hown, hts⟩ hK hw (c_X10_meets l D dT ah H_121.size mo AR q g hm np X Y hX b a (by omega) (by omega)) ko_X10_meets km_X10_126 ki_X10_meets ks_X10_meets kn_X10 (by decide +kernel) rfl hm.1 rfl hl.1 rfl (by simp [Value.category]) dX10_meet_157 (by rw [hR]; exact ⟨rfl, rfl, Nat.le_of_ble_eq_true rfl, Nat.le_of_ble_eq_true rfl, by simp, by simp⟩) (fun r_126 ah_127 H_128 L_129 st_130 hp hw hst => ?_)
                rcases hp with ⟨c_125, rfl, rfl⟩ | ⟨c_125, rfl, eah_127⟩
                · skip
                  have hst : st_130 = [.int 0] := hst
                  subst hst
                  refine lv_if_ne (tgt := 174) hx hb dX10_meet_160 (by decide) (fun c_131 => ?_) (fun c_131 => ?_)
                  · exact absurd c_131 (by decide)
                  · skip
                    refine lv_aload_n hx hb dX10_meet_163 rfl (lv_at hl 2 rfl) ?_
                    refine lv_iload_n hx hb dX10_meet_164 rfl (lv_at hl 4 rfl) ?_
                    refine lv_iconst (v := 1) hx hb dX10_meet_165 (by decide) ?_
                    refine lv_iadd hx hb dX10_meet_166 ?_
                    refine lv_topi (fun t_132 et_132 => ?_)
                    obtain rfl : t_132 = nI (b + 1) := et_132.trans (nI_c _ 1)
                    refine lv_iload_n hx hb dX10_meet_167 rfl (lv_at hl 3 rfl) ?_
                    refine h_callV (n := 2) (ci := 10) (b := mo) (As := [.int (nI (b + 1)), .int (nI a)]) (rest := []) ⟨hx, hb, hml, hown, hts⟩ hK hw (c_X10_meets l D dT ah H_128.size mo AR q g hm np X Y hX (b + 1) a (by omega) (by omega)) ko_X10_meets km_X10_126 ki_X10_meets ks_X10_meets kn_X10 (by decide +kernel) rfl hm.1 rfl hl.1 rfl (by simp [Value.category]) dX10_meet_168 (by rw [hR]; exact ⟨rfl, rfl, Nat.le_of_ble_eq_true rfl, Nat.le_of_ble_eq_true rfl, by simp, by simp⟩) (fun r_134 ah_135 H_136 L_137 st_138 hp hw hst => ?_)
                    rcases hp with ⟨c_133, rfl, rfl⟩ | ⟨c_133, rfl, eah_135⟩
                    · skip
                      have hst : st_138 = [.int 0] := hst
                      subst hst
                      refine lv_if_eq (tgt := 178) hx hb dX10_meet_171 (by decide) (fun c_139 => ?_) (fun c_139 => ?_)
                      · skip
                        refine lv_iconst (v := 0) hx hb dX10_meet_178 (by decide) ?_
                        have hv : (0, q 6, q 7) = mMeet X Y (q 6) (q 7) a b := by
                          unfold mMeet
                          all_goals rw [if_pos c_15, if_neg c_108, if_pos c_109, if_pos c_110, if_pos c_118, if_pos c_125, if_pos c_133]
                        have hh : ah = hup ah mo (.inr (10, moF (upd (upd q 6 (q 6)) 7 (q 7)) AR)) := by first | exact (moA_id hm rfl).symm | (subst_vars; simp only [hup_hup])
                        rw [hQ]
                        exact h_iret hx hb hr hlk hsz hw (by simp) (by simp) dX10_meet_179 ⟨congrArg (a₁ := (0, q 6, q 7)) (a₂ := mMeet X Y (q 6) (q 7) a b) (fun z : Int32 × Int32 × Int32 => some (Value.int z.1)) hv, hh.trans (congrArg (a₁ := (0, q 6, q 7)) (a₂ := mMeet X Y (q 6) (q 7) a b) (fun z : Int32 × Int32 × Int32 => hup ah mo (.inr (10, moF (upd (upd q 6 z.2.1) 7 z.2.2) AR))) hv)⟩
                      · exact absurd c_139 (by decide)
                    · skip
                      have hm_140 : moA dT ah_135 mo AR (upd (upd q 6 (X (b + 1))) 7 (Y (b + 1))) g := moA_q hm eah_135
                      have hst : st_138 = [.int 1] := hst
                      subst hst
                      refine lv_if_eq (tgt := 178) hx hb dX10_meet_171 (by decide) (fun c_141 => ?_) (fun c_141 => ?_)
                      · exact absurd c_141 (by decide)
                      · skip
                        refine lv_iconst (v := 1) hx hb dX10_meet_174 (by decide) ?_
                        refine lv_goto (tgt := 179) hx hb dX10_meet_175 (by decide) ?_
                        have hv : (1, X (b + 1), Y (b + 1)) = mMeet X Y (q 6) (q 7) a b := by
                          unfold mMeet
                          all_goals rw [if_pos c_15, if_neg c_108, if_pos c_109, if_pos c_110, if_pos c_118, if_pos c_125, if_neg c_133]
                        have hh : ah_135 = hup ah mo (.inr (10, moF (upd (upd q 6 (X (b + 1))) 7 (Y (b + 1))) AR)) := by first | exact (moA_id hm rfl).symm | (subst_vars; simp only [hup_hup])
                        rw [hQ]
                        exact h_iret hx hb hr hlk hsz hw (by simp) (by simp) dX10_meet_179 ⟨congrArg (a₁ := (1, X (b + 1), Y (b + 1))) (a₂ := mMeet X Y (q 6) (q 7) a b) (fun z : Int32 × Int32 × Int32 => some (Value.int z.1)) hv, hh.trans (congrArg (a₁ := (1, X (b + 1), Y (b + 1))) (a₂ := mMeet X Y (q 6) (q 7) a b) (fun z : Int32 × Int32 × Int32 => hup ah mo (.inr (10, moF (upd (upd q 6 z.2.1) 7 z.2.2) AR))) hv)⟩
                · skip
                  have hm_142 : moA dT ah_127 mo AR (upd (upd q 6 (X b)) 7 (Y b)) g := moA_q hm eah_127
                  have hst : st_130 = [.int 1] := hst
                  subst hst
                  refine lv_if_ne (tgt := 174) hx hb dX10_meet_160 (by decide) (fun c_143 => ?_) (fun c_143 => ?_)
                  · skip
                    refine lv_iconst (v := 1) hx hb dX10_meet_174 (by decide) ?_
                    refine lv_goto (tgt := 179) hx hb dX10_meet_175 (by decide) ?_
                    have hv : (1, X b, Y b) = mMeet X Y (q 6) (q 7) a b := by
                      unfold mMeet
                      all_goals rw [if_pos c_15, if_neg c_108, if_pos c_109, if_pos c_110, if_pos c_118, if_neg c_125]
                    have hh : ah_127 = hup ah mo (.inr (10, moF (upd (upd q 6 (X b)) 7 (Y b)) AR)) := by first | exact (moA_id hm rfl).symm | (subst_vars; simp only [hup_hup])
                    rw [hQ]
                    exact h_iret hx hb hr hlk hsz hw (by simp) (by simp) dX10_meet_179 ⟨congrArg (a₁ := (1, X b, Y b)) (a₂ := mMeet X Y (q 6) (q 7) a b) (fun z : Int32 × Int32 × Int32 => some (Value.int z.1)) hv, hh.trans (congrArg (a₁ := (1, X b, Y b)) (a₂ := mMeet X Y (q 6) (q 7) a b) (fun z : Int32 × Int32 × Int32 => hup ah mo (.inr (10, moF (upd (upd q 6 z.2.1) 7 z.2.2) AR))) hv)⟩
                  · exact absurd c_143 (by decide)
            · skip
              have hm_144 : moA dT ah_120 mo AR (upd (upd q 6 (X (a + 1))) 7 (Y (a + 1))) g := moA_q hm eah_120
              have hst : st_123 = [.int 1] := hst
              subst hst
              refine lv_if_ne (tgt := 174) hx hb dX10_meet_151 (by decide) (fun c_145 => ?_) (fun c_145 => ?_)
              · skip
                refine lv_iconst (v := 1) hx hb dX10_meet_174 (by decide) ?_
                refine lv_goto (tgt := 179) hx hb dX10_meet_175 (by decide) ?_
                have hv : (1, X (a + 1), Y (a + 1)) = mMeet X Y (q 6) (q 7) a b := by
                  unfold mMeet
                  all_goals rw [if_pos c_15, if_neg c_108, if_pos c_109, if_pos c_110, if_neg c_118]
                have hh : ah_120 = hup ah mo (.inr (10, moF (upd (upd q 6 (X (a + 1))) 7 (Y (a + 1))) AR)) := by first | exact (moA_id hm rfl).symm | (subst_vars; simp only [hup_hup])
                rw [hQ]
                exact h_iret hx hb hr hlk hsz hw (by simp) (by simp) dX10_meet_179 ⟨congrArg (a₁ := (1, X (a + 1), Y (a + 1))) (a₂ := mMeet X Y (q 6) (q 7) a b) (fun z : Int32 × Int32 × Int32 => some (Value.int z.1)) hv, hh.trans (congrArg (a₁ := (1, X (a + 1), Y (a + 1))) (a₂ := mMeet X Y (q 6) (q 7) a b) (fun z : Int32 × Int32 × Int32 => hup ah mo (.inr (10, moF (upd (upd q 6 z.2.1) 7 z.2.2) AR))) hv)⟩
              · exact absurd c_145 (by decide)
        · skip
          have hm_146 : moA dT ah_112 mo AR (upd (upd q 6 (X a)) 7 (Y a)) g := moA_q hm eah_112
          have hst : st_115 = [.int 1] := hst
          subst hst
          refine lv_if_ne (tgt := 174) hx hb dX10_meet_140 (by decide) (fun c_147 => ?_) (fun c_147 => ?_)
          · skip
            refine lv_iconst (v := 1) hx hb dX10_meet_174 (by decide) ?_
            refine lv_goto (tgt := 179) hx hb dX10_meet_175 (by decide) ?_
            have hv : (1, X a, Y a) = mMeet X Y (q 6) (q 7) a b := by
              unfold mMeet
              all_goals rw [if_pos c_15, if_neg c_108, if_pos c_109, if_neg c_110]
            have hh : ah_112 = hup ah mo (.inr (10, moF (upd (upd q 6 (X a)) 7 (Y a)) AR)) := by first | exact (moA_id hm rfl).symm | (subst_vars; simp only [hup_hup])
            rw [hQ]
            exact h_iret hx hb hr hlk hsz hw (by simp) (by simp) dX10_meet_179 ⟨congrArg (a₁ := (1, X a, Y a)) (a₂ := mMeet X Y (q 6) (q 7) a b) (fun z : Int32 × Int32 × Int32 => some (Value.int z.1)) hv, hh.trans (congrArg (a₁ := (1, X a, Y a)) (a₂ := mMeet X Y (q 6) (q 7) a b) (fun z : Int32 × Int32 × Int32 => hup ah mo (.inr (10, moF (upd (upd q 6 z.2.1) 7 z.2.2) AR))) hv)⟩
          · exact absurd c_147 (by decide)
      · skip
        refine lv_aload_n hx hb dX10_meet_84 rfl (lv_at hl 2 rfl) ?_
        refine lv_iload_n hx hb dX10_meet_85 rfl (lv_at hl 4 rfl) ?_
        refine lv_iload_n hx hb dX10_meet_86 rfl (lv_at hl 4 rfl) ?_
        refine lv_iconst (v := 1) hx hb dX10_meet_87 (by decide) ?_
        refine lv_iadd hx hb dX10_meet_88 ?_
        refine lv_topi (fun t_148 et_148 => ?_)
        obtain rfl : t_148 = nI (b + 1) := et_148.trans (nI_c _ 1)
        refine lv_aload_n hx hb dX10_meet_89 rfl (lv_at hl 2 rfl) ?_
        refine h_get (ci := 10) (v := .ref (AR 9)) (C := RX10) (T := TX10) (N := 26) hx hb hts kl_X10 hown hK hw hm.1 rfl 14 (by decide) (hts _ kf_X10_37) rfl rfl dX10_meet_90 ?_
        refine lv_iload_n hx hb dX10_meet_93 rfl (lv_at hl 3 rfl) ?_
        refine h_iald hx hb hK hw (moA_a (n := 4096) (f := g 9) hm 9 (by decide) rfl rfl) a rfl (by omega) (by omega) dX10_meet_94 ?_
        rw [show (g 9) a = X a from (hX.2 _ (by omega)).1]
        refine lv_aload_n hx hb dX10_meet_95 rfl (lv_at hl 2 rfl) ?_
        refine h_get (ci := 10) (v := .ref (AR 10)) (C := RX10) (T := TX10) (N := 26) hx hb hts kl_X10 hown hK hw hm.1 rfl 15 (by decide) (hts _ kf_X10_40) rfl rfl dX10_meet_96 ?_
        refine lv_iload_n hx hb dX10_meet_99 rfl (lv_at hl 3 rfl) ?_
        refine h_iald hx hb hK hw (moA_a (n := 4096) (f := g 10) hm 10 (by decide) rfl rfl) a rfl (by omega) (by omega) dX10_meet_100 ?_
        rw [show (g 10) a = Y a from (hX.2 _ (by omega)).2]
        refine h_callV (n := 4) (ci := 10) (b := mo) (As := [.int (nI b), .int (nI (b + 1)), .int (X a), .int (Y a)]) (rest := []) ⟨hx, hb, hml, hown, hts⟩ hK hw (c_X10_side l D dT ah H_12.size mo AR q g hm np X Y hX b (b + 1) (X a) (Y a) (by omega) (by omega)) ko_X10_side km_X10_96 ki_X10_side ks_X10_side kn_X10 (by decide +kernel) rfl hm.1 rfl hl.1 rfl (by simp [Value.category]) dX10_meet_101 (by rw [hR]; exact ⟨rfl, rfl, Nat.le_of_ble_eq_true rfl, Nat.le_of_ble_eq_true rfl, by simp, by simp⟩) (fun r_149 ah_150 H_151 L_152 st_153 hp hw hst => ?_)
        obtain ⟨rfl, rfl⟩ := hp
        have hst : st_153 = [.int (mSide X Y b (b + 1) (X a) (Y a))] := hst
        subst hst
        refine lv_aload_n hx hb dX10_meet_104 rfl (lv_at hl 2 rfl) ?_
        refine lv_iload_n hx hb dX10_meet_105 rfl (lv_at hl 4 rfl) ?_
        refine lv_iload_n hx hb dX10_meet_106 rfl (lv_at hl 4 rfl) ?_
        refine lv_iconst (v := 1) hx hb dX10_meet_107 (by decide) ?_
        refine lv_iadd hx hb dX10_meet_108 ?_
        refine lv_topi (fun t_154 et_154 => ?_)
        obtain rfl : t_154 = nI (b + 1) := et_154.trans (nI_c _ 1)
        refine lv_aload_n hx hb dX10_meet_109 rfl (lv_at hl 2 rfl) ?_
        refine h_get (ci := 10) (v := .ref (AR 9)) (C := RX10) (T := TX10) (N := 26) hx hb hts kl_X10 hown hK hw hm.1 rfl 14 (by decide) (hts _ kf_X10_37) rfl rfl dX10_meet_110 ?_
        refine lv_iload_n hx hb dX10_meet_113 rfl (lv_at hl 3 rfl) ?_
        refine lv_iconst (v := 1) hx hb dX10_meet_114 (by decide) ?_
        refine lv_iadd hx hb dX10_meet_115 ?_
        refine lv_topi (fun t_155 et_155 => ?_)
        obtain rfl : t_155 = nI (a + 1) := et_155.trans (nI_c _ 1)
        refine h_iald hx hb hK hw (moA_a (n := 4096) (f := g 9) hm 9 (by decide) rfl rfl) (a + 1) rfl (by omega) (by omega) dX10_meet_116 ?_
        rw [show (g 9) (a + 1) = X (a + 1) from (hX.2 _ (by omega)).1]
        refine lv_aload_n hx hb dX10_meet_117 rfl (lv_at hl 2 rfl) ?_
        refine h_get (ci := 10) (v := .ref (AR 10)) (C := RX10) (T := TX10) (N := 26) hx hb hts kl_X10 hown hK hw hm.1 rfl 15 (by decide) (hts _ kf_X10_40) rfl rfl dX10_meet_118 ?_
        refine lv_iload_n hx hb dX10_meet_121 rfl (lv_at hl 3 rfl) ?_
        refine lv_iconst (v := 1) hx hb dX10_meet_122 (by decide) ?_
        refine lv_iadd hx hb dX10_meet_123 ?_
        refine lv_topi (fun t_156 et_156 => ?_)
        obtain rfl : t_156 = nI (a + 1) := et_156.trans (nI_c _ 1)
        refine h_iald hx hb hK hw (moA_a (n := 4096) (f := g 10) hm 10 (by decide) rfl rfl) (a + 1) rfl (by omega) (by omega) dX10_meet_124 ?_
        rw [show (g 10) (a + 1) = Y (a + 1) from (hX.2 _ (by omega)).2]
        refine h_callV (n := 4) (ci := 10) (b := mo) (As := [.int (nI b), .int (nI (b + 1)), .int (X (a + 1)), .int (Y (a + 1))]) (rest := [.int (mSide X Y b (b + 1) (X a) (Y a))]) ⟨hx, hb, hml, hown, hts⟩ hK hw (c_X10_side l D dT ah H_151.size mo AR q g hm np X Y hX b (b + 1) (X (a + 1)) (Y (a + 1)) (by omega) (by omega)) ko_X10_side km_X10_96 ki_X10_side ks_X10_side kn_X10 (by decide +kernel) rfl hm.1 rfl hl.1 rfl (by simp [Value.category]) dX10_meet_125 (by rw [hR]; exact ⟨rfl, rfl, Nat.le_of_ble_eq_true rfl, Nat.le_of_ble_eq_true rfl, by simp, by simp⟩) (fun r_157 ah_158 H_159 L_160 st_161 hp hw hst => ?_)
        obtain ⟨rfl, rfl⟩ := hp
        have hst : st_161 = [.int (mSide X Y b (b + 1) (X (a + 1)) (Y (a + 1))), .int (mSide X Y b (b + 1) (X a) (Y a))] := hst
        subst hst
        refine lv_imul hx hb dX10_meet_128 ?_
        refine lv_if_ge (tgt := 134) hx hb dX10_meet_129 (by decide) (fun c_162 => ?_) (fun c_162 => ?_)
        · skip
          refine lv_aload_n hx hb dX10_meet_134 rfl (lv_at hl 2 rfl) ?_
          refine lv_iload_n hx hb dX10_meet_135 rfl (lv_at hl 3 rfl) ?_
          refine lv_iload_n hx hb dX10_meet_136 rfl (lv_at hl 4 rfl) ?_
          refine h_callV (n := 2) (ci := 10) (b := mo) (As := [.int (nI a), .int (nI b)]) (rest := []) ⟨hx, hb, hml, hown, hts⟩ hK hw (c_X10_meets l D dT ah H_159.size mo AR q g hm np X Y hX a b (by omega) (by omega)) ko_X10_meets km_X10_126 ki_X10_meets ks_X10_meets kn_X10 (by decide +kernel) rfl hm.1 rfl hl.1 rfl (by simp [Value.category]) dX10_meet_137 (by rw [hR]; exact ⟨rfl, rfl, Nat.le_of_ble_eq_true rfl, Nat.le_of_ble_eq_true rfl, by simp, by simp⟩) (fun r_164 ah_165 H_166 L_167 st_168 hp hw hst => ?_)
          rcases hp with ⟨c_163, rfl, rfl⟩ | ⟨c_163, rfl, eah_165⟩
          · skip
            have hst : st_168 = [.int 0] := hst
            subst hst
            refine lv_if_ne (tgt := 174) hx hb dX10_meet_140 (by decide) (fun c_169 => ?_) (fun c_169 => ?_)
            · exact absurd c_169 (by decide)
            · skip
              refine lv_aload_n hx hb dX10_meet_143 rfl (lv_at hl 2 rfl) ?_
              refine lv_iload_n hx hb dX10_meet_144 rfl (lv_at hl 3 rfl) ?_
              refine lv_iconst (v := 1) hx hb dX10_meet_145 (by decide) ?_
              refine lv_iadd hx hb dX10_meet_146 ?_
              refine lv_topi (fun t_170 et_170 => ?_)
              obtain rfl : t_170 = nI (a + 1) := et_170.trans (nI_c _ 1)
              refine lv_iload_n hx hb dX10_meet_147 rfl (lv_at hl 4 rfl) ?_
              refine h_callV (n := 2) (ci := 10) (b := mo) (As := [.int (nI (a + 1)), .int (nI b)]) (rest := []) ⟨hx, hb, hml, hown, hts⟩ hK hw (c_X10_meets l D dT ah H_166.size mo AR q g hm np X Y hX (a + 1) b (by omega) (by omega)) ko_X10_meets km_X10_126 ki_X10_meets ks_X10_meets kn_X10 (by decide +kernel) rfl hm.1 rfl hl.1 rfl (by simp [Value.category]) dX10_meet_148 (by rw [hR]; exact ⟨rfl, rfl, Nat.le_of_ble_eq_true rfl, Nat.le_of_ble_eq_true rfl, by simp, by simp⟩) (fun r_172 ah_173 H_174 L_175 st_176 hp hw hst => ?_)
              rcases hp with ⟨c_171, rfl, rfl⟩ | ⟨c_171, rfl, eah_173⟩
              · skip
                have hst : st_176 = [.int 0] := hst
                subst hst
                refine lv_if_ne (tgt := 174) hx hb dX10_meet_151 (by decide) (fun c_177 => ?_) (fun c_177 => ?_)
                · exact absurd c_177 (by decide)
                · skip
                  refine lv_aload_n hx hb dX10_meet_154 rfl (lv_at hl 2 rfl) ?_
                  refine lv_iload_n hx hb dX10_meet_155 rfl (lv_at hl 4 rfl) ?_
                  refine lv_iload_n hx hb dX10_meet_156 rfl (lv_at hl 3 rfl) ?_
                  refine h_callV (n := 2) (ci := 10) (b := mo) (As := [.int (nI b), .int (nI a)]) (rest := []) ⟨hx, hb, hml, hown, hts⟩ hK hw (c_X10_meets l D dT ah H_174.size mo AR q g hm np X Y hX b a (by omega) (by omega)) ko_X10_meets km_X10_126 ki_X10_meets ks_X10_meets kn_X10 (by decide +kernel) rfl hm.1 rfl hl.1 rfl (by simp [Value.category]) dX10_meet_157 (by rw [hR]; exact ⟨rfl, rfl, Nat.le_of_ble_eq_true rfl, Nat.le_of_ble_eq_true rfl, by simp, by simp⟩) (fun r_179 ah_180 H_181 L_182 st_183 hp hw hst => ?_)
                  rcases hp with ⟨c_178, rfl, rfl⟩ | ⟨c_178, rfl, eah_180⟩
                  · skip
                    have hst : st_183 = [.int 0] := hst
                    subst hst
                    refine lv_if_ne (tgt := 174) hx hb dX10_meet_160 (by decide) (fun c_184 => ?_) (fun c_184 => ?_)
                    · exact absurd c_184 (by decide)
                    · skip
                      refine lv_aload_n hx hb dX10_meet_163 rfl (lv_at hl 2 rfl) ?_
                      refine lv_iload_n hx hb dX10_meet_164 rfl (lv_at hl 4 rfl) ?_
                      refine lv_iconst (v := 1) hx hb dX10_meet_165 (by decide) ?_
                      refine lv_iadd hx hb dX10_meet_166 ?_
                      refine lv_topi (fun t_185 et_185 => ?_)
                      obtain rfl : t_185 = nI (b + 1) := et_185.trans (nI_c _ 1)
                      refine lv_iload_n hx hb dX10_meet_167 rfl (lv_at hl 3 rfl) ?_
                      refine h_callV (n := 2) (ci := 10) (b := mo) (As := [.int (nI (b + 1)), .int (nI a)]) (rest := []) ⟨hx, hb, hml, hown, hts⟩ hK hw (c_X10_meets l D dT ah H_181.size mo AR q g hm np X Y hX (b + 1) a (by omega) (by omega)) ko_X10_meets km_X10_126 ki_X10_meets ks_X10_meets kn_X10 (by decide +kernel) rfl hm.1 rfl hl.1 rfl (by simp [Value.category]) dX10_meet_168 (by rw [hR]; exact ⟨rfl, rfl, Nat.le_of_ble_eq_true rfl, Nat.le_of_ble_eq_true rfl, by simp, by simp⟩) (fun r_187 ah_188 H_189 L_190 st_191 hp hw hst => ?_)
                      rcases hp with ⟨c_186, rfl, rfl⟩ | ⟨c_186, rfl, eah_188⟩
                      · skip
                        have hst : st_191 = [.int 0] := hst
                        subst hst
                        refine lv_if_eq (tgt := 178) hx hb dX10_meet_171 (by decide) (fun c_192 => ?_) (fun c_192 => ?_)
                        · skip
                          refine lv_iconst (v := 0) hx hb dX10_meet_178 (by decide) ?_
                          have hv : (0, q 6, q 7) = mMeet X Y (q 6) (q 7) a b := by
                            unfold mMeet
                            all_goals rw [if_pos c_15, if_neg c_108, if_neg c_109, if_pos c_162, if_pos c_163, if_pos c_171, if_pos c_178, if_pos c_186]
                          have hh : ah = hup ah mo (.inr (10, moF (upd (upd q 6 (q 6)) 7 (q 7)) AR)) := by first | exact (moA_id hm rfl).symm | (subst_vars; simp only [hup_hup])
                          rw [hQ]
                          exact h_iret hx hb hr hlk hsz hw (by simp) (by simp) dX10_meet_179 ⟨congrArg (a₁ := (0, q 6, q 7)) (a₂ := mMeet X Y (q 6) (q 7) a b) (fun z : Int32 × Int32 × Int32 => some (Value.int z.1)) hv, hh.trans (congrArg (a₁ := (0, q 6, q 7)) (a₂ := mMeet X Y (q 6) (q 7) a b) (fun z : Int32 × Int32 × Int32 => hup ah mo (.inr (10, moF (upd (upd q 6 z.2.1) 7 z.2.2) AR))) hv)⟩
                        · exact absurd c_192 (by decide)
                      · skip
                        have hm_193 : moA dT ah_188 mo AR (upd (upd q 6 (X (b + 1))) 7 (Y (b + 1))) g := moA_q hm eah_188
                        have hst : st_191 = [.int 1] := hst
                        subst hst
                        refine lv_if_eq (tgt := 178) hx hb dX10_meet_171 (by decide) (fun c_194 => ?_) (fun c_194 => ?_)
                        · exact absurd c_194 (by decide)
                        · skip
                          refine lv_iconst (v := 1) hx hb dX10_meet_174 (by decide) ?_
                          refine lv_goto (tgt := 179) hx hb dX10_meet_175 (by decide) ?_
                          have hv : (1, X (b + 1), Y (b + 1)) = mMeet X Y (q 6) (q 7) a b := by
                            unfold mMeet
                            all_goals rw [if_pos c_15, if_neg c_108, if_neg c_109, if_pos c_162, if_pos c_163, if_pos c_171, if_pos c_178, if_neg c_186]
                          have hh : ah_188 = hup ah mo (.inr (10, moF (upd (upd q 6 (X (b + 1))) 7 (Y (b + 1))) AR)) := by first | exact (moA_id hm rfl).symm | (subst_vars; simp only [hup_hup])
                          rw [hQ]
                          exact h_iret hx hb hr hlk hsz hw (by simp) (by simp) dX10_meet_179 ⟨congrArg (a₁ := (1, X (b + 1), Y (b + 1))) (a₂ := mMeet X Y (q 6) (q 7) a b) (fun z : Int32 × Int32 × Int32 => some (Value.int z.1)) hv, hh.trans (congrArg (a₁ := (1, X (b + 1), Y (b + 1))) (a₂ := mMeet X Y (q 6) (q 7) a b) (fun z : Int32 × Int32 × Int32 => hup ah mo (.inr (10, moF (upd (upd q 6 z.2.1) 7 z.2.2) AR))) hv)⟩
                  · skip
                    have hm_195 : moA dT ah_180 mo AR (upd (upd q 6 (X b)) 7 (Y b)) g := moA_q hm eah_180
                    have hst : st_183 = [.int 1] := hst
                    subst hst
                    refine lv_if_ne (tgt := 174) hx hb dX10_meet_160 (by decide) (fun c_196 => ?_) (fun c_196 => ?_)
                    · skip
                      refine lv_iconst (v := 1) hx hb dX10_meet_174 (by decide) ?_
                      refine lv_goto (tgt := 179) hx hb dX10_meet_175 (by decide) ?_
                      have hv : (1, X b, Y b) = mMeet X Y (q 6) (q 7) a b := by
                        unfold mMeet
                        all_goals rw [if_pos c_15, if_neg c_108, if_neg c_109, if_pos c_162, if_pos c_163, if_pos c_171, if_neg c_178]
                      have hh : ah_180 = hup ah mo (.inr (10, moF (upd (upd q 6 (X b)) 7 (Y b)) AR)) := by first | exact (moA_id hm rfl).symm | (subst_vars; simp only [hup_hup])
                      rw [hQ]
                      exact h_iret hx hb hr hlk hsz hw (by simp) (by simp) dX10_meet_179 ⟨congrArg (a₁ := (1, X b, Y b)) (a₂ := mMeet X Y (q 6) (q 7) a b) (fun z : Int32 × Int32 × Int32 => some (Value.int z.1)) hv, hh.trans (congrArg (a₁ := (1, X b, Y b)) (a₂ := mMeet X Y (q 6) (q 7) a b) (fun z : Int32 × Int32 × Int32 => hup ah mo (.inr (10, moF (upd (upd q 6 z.2.1) 7 z.2.2) AR))) hv)⟩
                    · exact absurd c_196 (by decide)
              · skip
                have hm_197 : moA dT ah_173 mo AR (upd (upd q 6 (X (a + 1))) 7 (Y (a + 1))) g := moA_q hm eah_173
                have hst : st_176 = [.int 1] := hst
                subst hst
                refine lv_if_ne (tgt := 174) hx hb dX10_meet_151 (by decide) (fun c_198 => ?_) (fun c_198 => ?_)
                · skip
                  refine lv_iconst (v := 1) hx hb dX10_meet_174 (by decide) ?_
                  refine lv_goto (tgt := 179) hx hb dX10_meet_175 (by decide) ?_
                  have hv : (1, X (a + 1), Y (a + 1)) = mMeet X Y (q 6) (q 7) a b := by
                    unfold mMeet
                    all_goals rw [if_pos c_15, if_neg c_108, if_neg c_109, if_pos c_162, if_pos c_163, if_neg c_171]
                  have hh : ah_173 = hup ah mo (.inr (10, moF (upd (upd q 6 (X (a + 1))) 7 (Y (a + 1))) AR)) := by first | exact (moA_id hm rfl).symm | (subst_vars; simp only [hup_hup])
                  rw [hQ]
                  exact h_iret hx hb hr hlk hsz hw (by simp) (by simp) dX10_meet_179 ⟨congrArg (a₁ := (1, X (a + 1), Y (a + 1))) (a₂ := mMeet X Y (q 6) (q 7) a b) (fun z : Int32 × Int32 × Int32 => some (Value.int z.1)) hv, hh.trans (congrArg (a₁ := (1, X (a + 1), Y (a + 1))) (a₂ := mMeet X Y (q 6) (q 7) a b) (fun z : Int32 × Int32 × Int32 => hup ah mo (.inr (10, moF (upd (upd q 6 z.2.1) 7 z.2.2) AR))) hv)⟩
                · exact absurd c_198 (by decide)
          · skip
            have hm_199 : moA dT ah_165 mo AR (upd (upd q 6 (X a)) 7 (Y a)) g := moA_q hm eah_165
            have hst : st_168 = [.int 1] := hst
            subst hst
            refine lv_if_ne (tgt := 174) hx hb dX10_meet_140 (by decide) (fun c_200 => ?_) (fun c_200 => ?_)
            · skip
              refine lv_iconst (v := 1) hx hb dX10_meet_174 (by decide) ?_
              refine lv_goto (tgt := 179) hx hb dX10_meet_175 (by decide) ?_
              have hv : (1, X a, Y a) = mMeet X Y (q 6) (q 7) a b := by
                unfold mMeet
                all_goals rw [if_pos c_15, if_neg c_108, if_neg c_109, if_pos c_162, if_neg c_163]
              have hh : ah_165 = hup ah mo (.inr (10, moF (upd (upd q 6 (X a)) 7 (Y a)) AR)) := by first | exact (moA_id hm rfl).symm | (subst_vars; simp only [hup_hup])
              rw [hQ]
              exact h_iret hx hb hr hlk hsz hw (by simp) (by simp) dX10_meet_179 ⟨congrArg (a₁ := (1, X a, Y a)) (a₂ := mMeet X Y (q 6) (q 7) a b) (fun z : Int32 × Int32 × Int32 => some (Value.int z.1)) hv, hh.trans (congrArg (a₁ := (1, X a, Y a)) (a₂ := mMeet X Y (q 6) (q 7) a b) (fun z : Int32 × Int32 × Int32 => hup ah mo (.inr (10, moF (upd (upd q 6 z.2.1) 7 z.2.2) AR))) hv)⟩
            · exact absurd c_200 (by decide)
        · skip
          refine lv_iconst (v := 2) hx hb dX10_meet_132 (by decide) ?_
          have hv : (2, q 6, q 7) = mMeet X Y (q 6) (q 7) a b := by
            unfold mMeet
            all_goals rw [if_pos c_15, if_neg c_108, if_neg c_109, if_neg c_162]
          have hh : ah = hup ah mo (.inr (10, moF (upd (upd q 6 (q 6)) 7 (q 7)) AR)) := by first | exact (moA_id hm rfl).symm | (subst_vars; simp only [hup_hup])
          rw [hQ]
          exact h_iret hx hb hr hlk hsz hw (by simp) (by simp) dX10_meet_133 ⟨congrArg (a₁ := (2, q 6, q 7)) (a₂ := mMeet X Y (q 6) (q 7) a b) (fun z : Int32 × Int32 × Int32 => some (Value.int z.1)) hv, hh.trans (congrArg (a₁ := (2, q 6, q 7)) (a₂ := mMeet X Y (q 6) (q 7) a b) (fun z : Int32 × Int32 × Int32 => hup ah mo (.inr (10, moF (upd (upd q 6 z.2.1) 7 z.2.2) AR))) hv)⟩
    · skip
      refine lv_aload_n hx hb dX10_meet_56 rfl (lv_at hl 2 rfl) ?_
      refine lv_iload_n hx hb dX10_meet_57 rfl (lv_at hl 3 rfl) ?_
      refine lv_iload_n hx hb dX10_meet_58 rfl (lv_at hl 4 rfl) ?_
      refine h_callV (n := 2) (ci := 10) (b := mo) (As := [.int (nI a), .int (nI b)]) (rest := []) ⟨hx, hb, hml, hown, hts⟩ hK hw (c_X10_along l D dT ah H_12.size mo AR q g hm np X Y hX a b (by omega) (by omega)) ko_X10_along km_X10_123 ki_X10_along ks_X10_along kn_X10 (by decide +kernel) rfl hm.1 rfl hl.1 rfl (by simp [Value.category]) dX10_meet_59 (by rw [hR]; exact ⟨rfl, rfl, Nat.le_of_ble_eq_true rfl, Nat.le_of_ble_eq_true rfl, by simp, by simp⟩) (fun r_201 ah_202 H_203 L_204 st_205 hp hw hst => ?_)
      obtain ⟨rfl, eah_202⟩ := hp
      have hm_206 : moA dT ah_202 mo AR (upd (upd q 6 ((mAlong X Y a b).2.1)) 7 ((mAlong X Y a b).2.2)) g := moA_q hm eah_202
      have hst : st_205 = [.int ((mAlong X Y a b).1)] := hst
      subst hst
      refine lv_istore (lv' := [(5, .int ((mAlong X Y a b).1)), (4, .int (mSide X Y a (a + 1) (X (b + 1)) (Y (b + 1)))), (3, .int (mSide X Y a (a + 1) (X b) (Y b))), (0, .ref mo), (1, .int (nI a)), (2, .int (nI b))]) hx hb dX10_meet_62 hl (by decide) rfl (fun ls hl => ?_)
      refine lv_iload hx hb dX10_meet_64 (lv_at hl 0 rfl) ?_
      refine lv_iconst (v := 2) hx hb dX10_meet_66 (by decide) ?_
      refine lv_icmp_ne (tgt := 74) hx hb dX10_meet_67 (by decide) (fun c_207 => ?_) (fun c_207 => ?_)
      · skip
        refine lv_iload hx hb dX10_meet_74 (lv_at hl 0 rfl) ?_
        have hv : ((mAlong X Y a b).1, (mAlong X Y a b).2.1, (mAlong X Y a b).2.2) = mMeet X Y (q 6) (q 7) a b := by
          unfold mMeet
          all_goals rw [if_pos c_15, if_pos c_108, if_neg c_207]
        have hh : ah_202 = hup ah mo (.inr (10, moF (upd (upd q 6 ((mAlong X Y a b).2.1)) 7 ((mAlong X Y a b).2.2)) AR)) := by first | exact (moA_id hm rfl).symm | (subst_vars; simp only [hup_hup])
        rw [hQ]
        exact h_iret hx hb hr hlk hsz hw (by simp) (by simp) dX10_meet_76 ⟨congrArg (a₁ := ((mAlong X Y a b).1, (mAlong X Y a b).2.1, (mAlong X Y a b).2.2)) (a₂ := mMeet X Y (q 6) (q 7) a b) (fun z : Int32 × Int32 × Int32 => some (Value.int z.1)) hv, hh.trans (congrArg (a₁ := ((mAlong X Y a b).1, (mAlong X Y a b).2.1, (mAlong X Y a b).2.2)) (a₂ := mMeet X Y (q 6) (q 7) a b) (fun z : Int32 × Int32 × Int32 => hup ah mo (.inr (10, moF (upd (upd q 6 z.2.1) 7 z.2.2) AR))) hv)⟩
      · skip
        refine lv_iconst (v := 3) hx hb dX10_meet_70 (by decide) ?_
        refine lv_goto (tgt := 76) hx hb dX10_meet_71 (by decide) ?_
        have hv : (3, (mAlong X Y a b).2.1, (mAlong X Y a b).2.2) = mMeet X Y (q 6) (q 7) a b := by
          unfold mMeet
          all_goals rw [if_pos c_15, if_pos c_108, if_pos c_207]
        have hh : ah_202 = hup ah mo (.inr (10, moF (upd (upd q 6 ((mAlong X Y a b).2.1)) 7 ((mAlong X Y a b).2.2)) AR)) := by first | exact (moA_id hm rfl).symm | (subst_vars; simp only [hup_hup])
        rw [hQ]
        exact h_iret hx hb hr hlk hsz hw (by simp) (by simp) dX10_meet_76 ⟨congrArg (a₁ := (3, (mAlong X Y a b).2.1, (mAlong X Y a b).2.2)) (a₂ := mMeet X Y (q 6) (q 7) a b) (fun z : Int32 × Int32 × Int32 => some (Value.int z.1)) hv, hh.trans (congrArg (a₁ := (3, (mAlong X Y a b).2.1, (mAlong X Y a b).2.2)) (a₂ := mMeet X Y (q 6) (q 7) a b) (fun z : Int32 × Int32 × Int32 => hup ah mo (.inr (10, moF (upd (upd q 6 z.2.1) 7 z.2.2) AR))) hv)⟩

/-! ShapeJudgeModel: a MULTIPOLYGON -/
def mIns (X Y : Nat → Int32) (RP RN : Nat → Nat) (F G rc : Nat) : Bool := mIn X Y RP RN F G && !anyB rc (fun j9 => decide (1 ≤ j9) && mIn X Y RP RN F (G + j9))
theorem mIns_s {X Y : Nat → Int32} {RP RN : Nat → Nat} {F G k : Nat} {b : Bool} (hk : 1 ≤ k) (h : b = (mIn X Y RP RN F G && !anyB k (fun j9 => decide (1 ≤ j9) && mIn X Y RP RN F (G + j9)))) (hb : ¬ b = false) : (!mIn X Y RP RN F (G + k)) = (mIn X Y RP RN F G && !anyB (k + 1) (fun j9 => decide (1 ≤ j9) && mIn X Y RP RN F (G + j9))) := by
  have h1 := eq_true_of_ne_false hb
  rw [h1] at h
  have h2 := h.symm
  rw [Bool.and_eq_true] at h2
  have h3 : anyB k (fun j9 => decide (1 ≤ j9) && mIn X Y RP RN F (G + j9)) = false := by simpa using h2.2
  rw [anyB, h3, h2.1, decide_eq_true hk]
  simp
theorem mIns_u {X Y : Nat → Int32} {RP RN : Nat → Nat} {F G k rc : Nat} {b : Bool} (hk : k ≤ rc) (h : b = (mIn X Y RP RN F G && !anyB k (fun j9 => decide (1 ≤ j9) && mIn X Y RP RN F (G + j9)))) (hb : b = false) : b = mIns X Y RP RN F G rc := by
  unfold mIns
  rw [hb] at h ⊢
  cases h1 : mIn X Y RP RN F G with
  | false => rfl
  | true =>
    rw [h1] at h
    have h2 : anyB k (fun j9 => decide (1 ≤ j9) && mIn X Y RP RN F (G + j9)) = true := by simpa using h.symm
    rw [← anyB_u hk h2 h2.symm]; rfl
/-- how many rings of a shape count: none, if it is no part that has some -/
def rcP (WH : Nat → Int32) (RC : Nat → Nat) (w t : Nat) : Nat := if mPart WH RC t w = false then 0 else RC t
theorem rcP_le (WH : Nat → Int32) (RC : Nat → Nat) (w t : Nat) : rcP WH RC w t ≤ RC t := by unfold rcP; split <;> omega
theorem rcP_e {WH : Nat → Int32} {RC FG : Nat → Nat} {w t : Nat} : (if mPart WH RC t w = false then nI (FG t) else nI (FG t + RC t)) = nI (FG t + rcP WH RC w t) := by unfold rcP; by_cases h : mPart WH RC t w = false <;> simp [h]
theorem mPr_v {X Y : Nat → Int32} {RP RN : Nat → Nat} {r a q b : Nat} : mPr X Y RP RN r a q b = 0 ∨ mPr X Y RP RN r a q b = 3 ∨ mPr X Y RP RN r a q b = 4 ∨ mPr X Y RP RN r a q b = 5 := by
  unfold mPr mPair
  repeat' split
  all_goals simp
theorem mPr_6 {X Y : Nat → Int32} {RP RN : Nat → Nat} {r a q b : Nat} (h : ¬ mPr X Y RP RN r a q b ≤ 0) : 0 < mPr X Y RP RN r a q b + 6 := by
  rcases mPr_v (X := X) (Y := Y) (RP := RP) (RN := RN) (r := r) (a := a) (q := q) (b := b) with h1 | h1 | h1 | h1
  · exact absurd (by rw [h1]; decide) h
  all_goals rw [h1]; decide
def agB (X Y : Nat → Int32) (RP RN : Nat → Nat) (ns : Nat) (FG RC : Nat → Nat) (WH PA pl : Nat → Int32) (w s i ka t j kb : Nat) : fT :=
  if mSeg X Y (RP (FG t + j) + kb) = false then none else if mPr X Y RP RN (FG s + i) (RP (FG s + i) + ka) (FG t + j) (RP (FG t + j) + kb) ≤ 0 then none else
  some (mPr X Y RP RN (FG s + i) (RP (FG s + i) + ka) (FG t + j) (RP (FG t + j) + kb) + 6, p2 (p1 (upd pl 0 (nI w)) (PA s) (nI i) (nI ka)) (PA t) (nI j) (nI kb))
def agJ (X Y : Nat → Int32) (RP RN : Nat → Nat) (ns : Nat) (FG RC : Nat → Nat) (WH PA pl : Nat → Int32) (w s i ka t j : Nat) : fT := firstO (RN (FG t + j) - 1) (agB X Y RP RN ns FG RC WH PA pl w s i ka t j)
def agT (X Y : Nat → Int32) (RP RN : Nat → Nat) (ns : Nat) (FG RC : Nat → Nat) (WH PA pl : Nat → Int32) (w s i ka t : Nat) : fT := if t < s + 1 then none else firstO (rcP WH RC w t) (agJ X Y RP RN ns FG RC WH PA pl w s i ka t)
def agO (X Y : Nat → Int32) (RP RN : Nat → Nat) (ns : Nat) (FG RC : Nat → Nat) (WH PA pl : Nat → Int32) (w s i ka : Nat) : fT := firstO ns (agT X Y RP RN ns FG RC WH PA pl w s i ka)
def apA (X Y : Nat → Int32) (RP RN : Nat → Nat) (ns : Nat) (FG RC : Nat → Nat) (WH PA pl : Nat → Int32) (w s i ka : Nat) : fT := if mSeg X Y (RP (FG s + i) + ka) = false then none else agO X Y RP RN ns FG RC WH PA pl w s i ka
def apI (X Y : Nat → Int32) (RP RN : Nat → Nat) (ns : Nat) (FG RC : Nat → Nat) (WH PA pl : Nat → Int32) (w s i : Nat) : fT := firstO (RN (FG s + i) - 1) (apA X Y RP RN ns FG RC WH PA pl w s i)
def apO (X Y : Nat → Int32) (RP RN : Nat → Nat) (ns : Nat) (FG RC : Nat → Nat) (WH PA pl : Nat → Int32) (w : Nat) : fT := firstO ns (fun s => firstO (rcP WH RC w s) (apI X Y RP RN ns FG RC WH PA pl w s))
def plQ (X Y : Nat → Int32) (RP RN : Nat → Nat) (ns : Nat) (FG RC : Nat → Nat) (WH PA pl : Nat → Int32) (w s : Nat) : fT := if s < w + 1 then none else if mPart WH RC s w = false then none else poM X Y RP RN (FG s) (RC s) (nI w) (PA s) pl
def plT (X Y : Nat → Int32) (RP RN : Nat → Nat) (ns : Nat) (FG RC : Nat → Nat) (WH PA pl : Nat → Int32) (w s t : Nat) : fT := if t < s + 1 then none else if mPart WH RC t w = false then none else if mIns X Y RP RN (FG s) (FG t) (RC t) = false ∧ mIns X Y RP RN (FG t) (FG s) (RC s) = false then none else some (11, p2 (p1 (upd pl 0 (nI w)) (PA s) (-1) (-1)) (PA t) (-1) (-1))
def plS (X Y : Nat → Int32) (RP RN : Nat → Nat) (ns : Nat) (FG RC : Nat → Nat) (WH PA pl : Nat → Int32) (w s : Nat) : fT := if s < w + 1 then none else if mPart WH RC s w = false then none else firstO ns (plT X Y RP RN ns FG RC WH PA pl w s)
def plO (X Y : Nat → Int32) (RP RN : Nat → Nat) (ns : Nat) (FG RC : Nat → Nat) (WH PA pl : Nat → Int32) (w : Nat) : fT := oe (firstO ns (plQ X Y RP RN ns FG RC WH PA pl w)) (oe (apO X Y RP RN ns FG RC WH PA pl w) (firstO ns (plS X Y RP RN ns FG RC WH PA pl w)))
section
variable {X Y : Nat → Int32} {RP RN : Nat → Nat} {ns : Nat} {FG RC : Nat → Nat} {WH PA pl : Nat → Int32} {w s i ka t j kb : Nat} {x : Int32 × (Nat → Int32)}
theorem agB_g (h : mSeg X Y (RP (FG t + j) + kb) = false) : agB X Y RP RN ns FG RC WH PA pl w s i ka t j kb = none := if_pos h
theorem agB_n (h : mPr X Y RP RN (FG s + i) (RP (FG s + i) + ka) (FG t + j) (RP (FG t + j) + kb) ≤ 0) : agB X Y RP RN ns FG RC WH PA pl w s i ka t j kb = none := by unfold agB; split; rfl; first | rfl | rw [if_pos h]
theorem agB_s (h1 : ¬ mSeg X Y (RP (FG t + j) + kb) = false) (h : ¬ mPr X Y RP RN (FG s + i) (RP (FG s + i) + ka) (FG t + j) (RP (FG t + j) + kb) ≤ 0) : agB X Y RP RN ns FG RC WH PA pl w s i ka t j kb = some (mPr X Y RP RN (FG s + i) (RP (FG s + i) + ka) (FG t + j) (RP (FG t + j) + kb) + 6, p2 (p1 (upd pl 0 (nI w)) (PA s) (nI i) (nI ka)) (PA t) (nI j) (nI kb)) := by unfold agB; rw [if_neg h1, if_neg h]
theorem agT_n (h : ∀ j, j < rcP WH RC w t → agJ X Y RP RN ns FG RC WH PA pl w s i ka t j = none) : agT X Y RP RN ns FG RC WH PA pl w s i ka t = none := by unfold agT; rw [firstO_none h]; simp
theorem agT_y (h0 : s + 1 ≤ t) (h : firstO (rcP WH RC w t) (agJ X Y RP RN ns FG RC WH PA pl w s i ka t) = some x) : agT X Y RP RN ns FG RC WH PA pl w s i ka t = some x := by unfold agT; rw [if_neg (by omega), h]
theorem plQ_g (h : mPart WH RC s w = false) : plQ X Y RP RN ns FG RC WH PA pl w s = none := by unfold plQ; rw [if_pos h]; simp
theorem plQ_n (h : poM X Y RP RN (FG s) (RC s) (nI w) (PA s) pl = none) : plQ X Y RP RN ns FG RC WH PA pl w s = none := by unfold plQ; rw [h]; simp
theorem plQ_y (h0 : w + 1 ≤ s) (h : ¬ mPart WH RC s w = false) (h2 : poM X Y RP RN (FG s) (RC s) (nI w) (PA s) pl = some x) : plQ X Y RP RN ns FG RC WH PA pl w s = some x := by unfold plQ; rw [if_neg (by omega), if_neg h, h2]
theorem plT_g (h : mPart WH RC t w = false) : plT X Y RP RN ns FG RC WH PA pl w s t = none := by unfold plT; rw [if_pos h]; simp
theorem plT_n (h : mIns X Y RP RN (FG s) (FG t) (RC t) = false) (h2 : mIns X Y RP RN (FG t) (FG s) (RC s) = false) : plT X Y RP RN ns FG RC WH PA pl w s t = none := by unfold plT; split; rfl; split; rfl; rw [if_pos ⟨h, h2⟩]
theorem plT_y (h0 : s + 1 ≤ t) (h : ¬ mPart WH RC t w = false) (h2 : ¬ mIns X Y RP RN (FG s) (FG t) (RC t) = false ∨ ¬ mIns X Y RP RN (FG t) (FG s) (RC s) = false) : plT X Y RP RN ns FG RC WH PA pl w s t = some (11, p2 (p1 (upd pl 0 (nI w)) (PA s) (-1) (-1)) (PA t) (-1) (-1)) := by
  unfold plT; rw [if_neg (by omega), if_neg h, if_neg (fun h9 => h2.elim (fun h8 => h8 h9.1) (fun h8 => h8 h9.2))]
theorem plS_g (h : mPart WH RC s w = false) : plS X Y RP RN ns FG RC WH PA pl w s = none := by unfold plS; rw [if_pos h]; simp
theorem plS_n (h : ∀ j, j < ns → plT X Y RP RN ns FG RC WH PA pl w s j = none) : plS X Y RP RN ns FG RC WH PA pl w s = none := by unfold plS; rw [firstO_none h]; simp
theorem plS_y (h0 : w + 1 ≤ s) (h : ¬ mPart WH RC s w = false) (h2 : firstO ns (plT X Y RP RN ns FG RC WH PA pl w s) = some x) : plS X Y RP RN ns FG RC WH PA pl w s = some x := by unfold plS; rw [if_neg (by omega), if_neg h, h2]
theorem mPart_rc (h : ¬ mPart WH RC s w = false) : 0 < RC s := by
  unfold mPart at h
  by_cases h1 : WH s = nI w
  · rw [if_pos h1] at h
    by_cases h2 : RC s ≤ 0
    · rw [if_pos h2] at h; exact absurd rfl h
    · omega
  · rw [if_neg h1] at h; exact absurd rfl h
theorem poM_seg {F rc : Nat} {sh pt : Int32} (h : poM X Y RP RN F rc sh pt pl = none) (hr : 0 < rc) : ∀ k, k < rc → ∃ k2, k2 < RN (F + k) - 1 ∧ mSeg X Y (RP (F + k) + k2) = true := by
  unfold poM at h; rw [if_neg (by omega)] at h; exact rgO_seg (oe_n h).1
theorem hin9 (hpo : ∀ j, j < ns → plQ X Y RP RN ns FG RC WH PA pl w j = none) (hs : w + 1 ≤ s) (hs2 : s < ns) (ht : w + 1 ≤ t) (ht2 : t < ns) (h1 : ¬ mPart WH RC s w = false) (h2 : ¬ mPart WH RC t w = false) : 0 < RC s ∧ 0 < RC t ∧ ∃ k2, k2 < RN (FG s) - 1 ∧ mSeg X Y (RP (FG s) + k2) = true := by
  refine ⟨mPart_rc h1, mPart_rc h2, ?_⟩
  have h3 := hpo s hs2
  unfold plQ at h3; rw [if_neg (by omega), if_neg h1] at h3
  exact poM_seg h3 (mPart_rc h1) 0 (mPart_rc h1)
end
set_option maxHeartbeats 4000000 in
set_option maxRecDepth 100000 in
theorem c_X10_isInside (l : Launch) (D : va_G) (dT : Nat → ClassId) (ah : hA) (sz : Nat) (mo : Nat) (AR : Nat → Nat) (q : Nat → Int32) (g : Nat → Nat → Int32) (hm : moA dT ah mo AR q g) (np : Nat) (X Y : Nat → Int32) (hX : moX np g X Y) (nr : Nat) (RP RN : Nat → Nat) (hRg : moR np nr g RP RN) (ns : Nat) (FG RC PF PC : Nat → Nat) (KD WH PA : Nat → Int32) (hS : moS ns np nr g FG RC PF PC KD WH PA) (s9 t9 : Nat) (hs9 : s9 < ns) (ht9 : t9 < ns) (hsg : 0 < RC s9 ∧ 0 < RC t9 ∧ ∃ k2, k2 < RN (FG s9) - 1 ∧ mSeg X Y (RP (FG s9) + k2) = true) : hMet l yX10_isInside cX10_isInside 5 (some .boolean) ({ frames := 5, cells := 0, slots := 0, locals := 117 }) D dT [.ref mo, .int (nI s9), .int (nI t9)] ah sz (fun r ah2 => r = some (.int (bI (mIns X Y RP RN (FG s9) (FG t9) (RC t9)))) ∧ ah = ah2) 0 0 := by
  refine h_met (by decide) (Nat.le_of_ble_eq_true rfl) ?_
  intro p e s m below meth c ls R Q args hav hR hQ hB hl hsz hw
  obtain ⟨hx, hb, hml, hr, hts, hown, hlk, hin, hK⟩ := hB
  have hown : s.vm.findClass RX10 = some m.cls := hown
  have hl : lv_has ls 5 [(0, .ref mo), (1, .int (nI s9)), (2, .int (nI t9))] := hl
  have hnp := hX.1
  have hnr := hRg.1
  have hns9 := hS.1
  have hFR := (hS.2 s9 hs9).2.2.2.2.2.2.2.2
  have hFT := (hS.2 t9 ht9).2.2.2.2.2.2.2.2
  obtain ⟨hr0, ht0, hsg⟩ := hsg
  refine lv_aload_n hx hb dX10_isInside_0 rfl (lv_at hl 0 rfl) ?_
  refine lv_aload_n hx hb dX10_isInside_1 rfl (lv_at hl 0 rfl) ?_
  refine h_get (ci := 10) (v := .ref (AR 5)) (C := RX10) (T := TX10) (N := 26) hx hb hts kl_X10 hown hK hw hm.1 rfl 10 (by decide) (hts _ kf_X10_25) rfl rfl dX10_isInside_2 ?_
  refine lv_iload_n hx hb dX10_isInside_5 rfl (lv_at hl 1 rfl) ?_
  refine h_iald hx hb hK hw (moA_a (n := 2048) (f := g 5) hm 5 (by decide) rfl rfl) s9 rfl (by omega) (by omega) dX10_isInside_6 ?_
  rw [show (g 5) s9 = nI (FG s9) from (hS.2 _ (by omega)).2.2.2.2.2.1]
  refine lv_aload_n hx hb dX10_isInside_7 rfl (lv_at hl 0 rfl) ?_
  refine h_get (ci := 10) (v := .ref (AR 5)) (C := RX10) (T := TX10) (N := 26) hx hb hts kl_X10 hown hK hw hm.1 rfl 10 (by decide) (hts _ kf_X10_25) rfl rfl dX10_isInside_8 ?_
  refine lv_iload_n hx hb dX10_isInside_11 rfl (lv_at hl 2 rfl) ?_
  refine h_iald hx hb hK hw (moA_a (n := 2048) (f := g 5) hm 5 (by decide) rfl rfl) t9 rfl (by omega) (by omega) dX10_isInside_12 ?_
  rw [show (g 5) t9 = nI (FG t9) from (hS.2 _ (by omega)).2.2.2.2.2.1]
  refine h_callV (n := 2) (ci := 10) (b := mo) (As := [.int (nI (FG s9)), .int (nI (FG t9))]) (rest := []) ⟨hx, hb, hml, hown, hts⟩ hK hw (c_X10_liesIn l D dT ah s.heap.size mo AR q g hm np X Y hX nr RP RN hRg (FG s9) (FG t9) (by omega) (by omega) hsg) ko_X10_liesIn km_X10_192 ki_X10_liesIn ks_X10_liesIn kn_X10 (by decide +kernel) rfl hm.1 rfl hl.1 rfl (by simp [Value.category]) dX10_isInside_13 (by rw [hR]; exact ⟨rfl, rfl, Nat.le_of_ble_eq_true rfl, Nat.le_of_ble_eq_true rfl, by simp, by simp⟩) (fun r_1 ah_2 H_3 L_4 st_5 hp hw hst => ?_)
  obtain ⟨rfl, rfl⟩ := hp
  have hst : st_5 = [.int (bI (mIn X Y RP RN (FG s9) (FG t9)))] := hst
  subst hst
  refine lv_istore_n (lv' := [(3, .int (bI (mIn X Y RP RN (FG s9) (FG t9)))), (0, .ref mo), (1, .int (nI s9)), (2, .int (nI t9))]) hx hb dX10_isInside_16 rfl hl (by decide) rfl (fun ls hl => ?_)
  refine lv_iconst (v := 1) hx hb dX10_isInside_17 (by decide) ?_
  refine lv_istore (lv' := [(4, .int 1), (3, .int (bI (mIn X Y RP RN (FG s9) (FG t9)))), (0, .ref mo), (1, .int (nI s9)), (2, .int (nI t9))]) hx hb dX10_isInside_18 hl (by decide) rfl (fun ls hl => ?_)
  have LP20 : ∀ (k20 : Nat) (k : Nat) (is9 : Bool) (ls : Array Slot) (H20 : Heap) (L20 : List Loc), (RC t9 - k < k20) → (1 ≤ k) → (k ≤ RC t9) → (is9 = (mIn X Y RP RN (FG s9) (FG t9) && !anyB k (fun j9 => decide (1 ≤ j9) && mIn X Y RP RN (FG s9) (FG t9 + j9)))) → lv_has ls 5 [(4, .int (nI k)), (3, .int (bI is9)), (2, .int (nI t9)), (1, .int (nI s9)), (0, .ref mo)] → hW D ah s.heap ah H20 L20 → W p l e R s m args below meth c H20 L20 (0) (0) Q (F0 m 20 ls []) := by
    intro k20
    induction k20 with
    | zero => intro k is9 ls H20 L20 hk; exact absurd hk (Nat.not_lt_zero _)
    | succ k20 ih20 =>
      intro k is9 ls H20 L20 hk20 hk1 hk2 hi20 hl hw
      refine lv_iload hx hb dX10_isInside_20 (lv_at hl 0 rfl) ?_
      refine lv_aload_n hx hb dX10_isInside_22 rfl (lv_at hl 4 rfl) ?_
      refine h_get (ci := 10) (v := .ref (AR 6)) (C := RX10) (T := TX10) (N := 26) hx hb hts kl_X10 hown hK hw hm.1 rfl 11 (by decide) (hts _ kf_X10_28) rfl rfl dX10_isInside_23 ?_
      refine lv_iload_n hx hb dX10_isInside_26 rfl (lv_at hl 2 rfl) ?_
      refine h_iald hx hb hK hw (moA_a (n := 2048) (f := g 6) hm 6 (by decide) rfl rfl) t9 rfl (by omega) (by omega) dX10_isInside_27 ?_
      rw [show (g 6) t9 = nI (RC t9) from (hS.2 _ (by omega)).2.2.2.2.2.2.1]
      refine lv_icmp_ge (tgt := 69) hx hb dX10_isInside_28 (by decide) (fun c_6 => ?_) (fun c_6 => ?_)
      · skip
        have c_6 : RC t9 ≤ k := (nI_lex (by rfl) (by rfl) (by omega) (by omega)).mp c_6
        refine lv_iload_n hx hb dX10_isInside_69 rfl (lv_at hl 1 rfl) ?_
        rw [hQ]
        exact h_zret hx hb hr hlk hsz hw (by simp) (by simp) dX10_isInside_70 (bI_01 _) ⟨congrArg (fun z => some (Value.int (bI z))) (hi20.trans (by unfold mIns; rw [show k = RC t9 by omega])), rfl⟩
      · skip
        have c_6 : ¬ (RC t9 ≤ k) := (not_congr (nI_lex (by rfl) (by rfl) (by omega) (by omega))).mp c_6
        refine lv_iload_n hx hb dX10_isInside_31 rfl (lv_at hl 1 rfl) ?_
        refine lv_if_eq (tgt := 69) hx hb dX10_isInside_32 (by decide) (fun c_7 => ?_) (fun c_7 => ?_)
        · skip
          have c_7 : is9 = false := bI_0.mp c_7
          refine lv_iload_n hx hb dX10_isInside_69 rfl (lv_at hl 1 rfl) ?_
          rw [hQ]
          exact h_zret hx hb hr hlk hsz hw (by simp) (by simp) dX10_isInside_70 (bI_01 _) ⟨congrArg (fun z => some (Value.int (bI z))) (mIns_u hk2 hi20 c_7), rfl⟩
        · skip
          have c_7 : ¬ (is9 = false) := (not_congr bI_0).mp c_7
          refine lv_aload_n hx hb dX10_isInside_35 rfl (lv_at hl 4 rfl) ?_
          refine lv_aload_n hx hb dX10_isInside_36 rfl (lv_at hl 4 rfl) ?_
          refine h_get (ci := 10) (v := .ref (AR 5)) (C := RX10) (T := TX10) (N := 26) hx hb hts kl_X10 hown hK hw hm.1 rfl 10 (by decide) (hts _ kf_X10_25) rfl rfl dX10_isInside_37 ?_
          refine lv_iload_n hx hb dX10_isInside_40 rfl (lv_at hl 3 rfl) ?_
          refine h_iald hx hb hK hw (moA_a (n := 2048) (f := g 5) hm 5 (by decide) rfl rfl) s9 rfl (by omega) (by omega) dX10_isInside_41 ?_
          rw [show (g 5) s9 = nI (FG s9) from (hS.2 _ (by omega)).2.2.2.2.2.1]
          refine lv_aload_n hx hb dX10_isInside_42 rfl (lv_at hl 4 rfl) ?_
          refine h_get (ci := 10) (v := .ref (AR 5)) (C := RX10) (T := TX10) (N := 26) hx hb hts kl_X10 hown hK hw hm.1 rfl 10 (by decide) (hts _ kf_X10_25) rfl rfl dX10_isInside_43 ?_
          refine lv_iload_n hx hb dX10_isInside_46 rfl (lv_at hl 2 rfl) ?_
          refine h_iald hx hb hK hw (moA_a (n := 2048) (f := g 5) hm 5 (by decide) rfl rfl) t9 rfl (by omega) (by omega) dX10_isInside_47 ?_
          rw [show (g 5) t9 = nI (FG t9) from (hS.2 _ (by omega)).2.2.2.2.2.1]
          refine lv_iload hx hb dX10_isInside_48 (lv_at hl 0 rfl) ?_
          refine lv_iadd hx hb dX10_isInside_50 ?_
          refine lv_topi (fun t_8 et_8 => ?_)
          obtain rfl : t_8 = nI (FG t9 + k) := et_8.trans (nI_add _ _)
          refine h_callV (n := 2) (ci := 10) (b := mo) (As := [.int (nI (FG s9)), .int (nI (FG t9 + k))]) (rest := []) ⟨hx, hb, hml, hown, hts⟩ hK hw (c_X10_liesIn l D dT ah H20.size mo AR q g hm np X Y hX nr RP RN hRg (FG s9) (FG t9 + k) (by omega) (by omega) hsg) ko_X10_liesIn km_X10_192 ki_X10_liesIn ks_X10_liesIn kn_X10 (by decide +kernel) rfl hm.1 rfl hl.1 rfl (by simp [Value.category]) dX10_isInside_51 (by rw [hR]; exact ⟨rfl, rfl, Nat.le_of_ble_eq_true rfl, Nat.le_of_ble_eq_true rfl, by simp, by simp⟩) (fun r_9 ah_10 H_11 L_12 st_13 hp hw hst => ?_)
          obtain ⟨rfl, rfl⟩ := hp
          have hst : st_13 = [.int (bI (mIn X Y RP RN (FG s9) (FG t9 + k)))] := hst
          subst hst
          have J_16 : ∀ (v_15 : Int32) (ls : Array Slot), lv_has ls 5 [(4, .int (nI k)), (3, .int (bI is9)), (2, .int (nI t9)), (1, .int (nI s9)), (0, .ref mo)] → v_15 = (if mIn X Y RP RN (FG s9) (FG t9 + k) = false then 1 else 0) → W p l e R s m args below meth c H_11 L_12 (0) (0) Q (F0 m 62 ls [.int v_15]) := by
            intro v_15 ls hl ev_15
            have hv9 : v_15 = bI (!mIn X Y RP RN (FG s9) (FG t9 + k)) := ev_15.trans bI_not
            subst hv9
            refine lv_istore_n (lv' := [(3, .int (bI (!mIn X Y RP RN (FG s9) (FG t9 + k)))), (4, .int (nI k)), (2, .int (nI t9)), (1, .int (nI s9)), (0, .ref mo)]) hx hb dX10_isInside_62 rfl hl (by decide) rfl (fun ls hl => ?_)
            refine lv_iinc (v := nI (k + 1)) (lv' := [(4, .int (nI (k + 1))), (3, .int (bI (!mIn X Y RP RN (FG s9) (FG t9 + k)))), (2, .int (nI t9)), (1, .int (nI s9)), (0, .ref mo)]) hx hb dX10_isInside_63 hl (k := 1) rfl (nI_c _ 1) (by decide) rfl (fun ls hl => ?_)
            refine lv_goto (tgt := 20) hx hb dX10_isInside_66 (by decide) ?_
            exact ih20 (k + 1) (!mIn X Y RP RN (FG s9) (FG t9 + k)) ls _ _ (by omega) (by omega) (by omega) (mIns_s hk1 hi20 c_7) (lv_sub hl [0, 1, 2, 3, 4] rfl) hw
          refine lv_if_ne (tgt := 61) hx hb dX10_isInside_54 (by decide) (fun c_14 => ?_) (fun c_14 => ?_)
          · skip
            have c_14 : ¬ (mIn X Y RP RN (FG s9) (FG t9 + k) = false) := (not_congr bI_0).mp c_14
            refine lv_iconst (v := 0) hx hb dX10_isInside_61 (by decide) ?_
            exact J_16 0 ls (lv_sub hl [0, 1, 2, 3, 4] rfl) (by rw [if_neg c_14])
          · skip
            have c_14 : mIn X Y RP RN (FG s9) (FG t9 + k) = false := bI_0.mp c_14
            refine lv_iconst (v := 1) hx hb dX10_isInside_57 (by decide) ?_
            refine lv_goto (tgt := 62) hx hb dX10_isInside_58 (by decide) ?_
            exact J_16 1 ls (lv_sub hl [0, 1, 2, 3, 4] rfl) (by rw [if_pos c_14])
  exact LP20 ((RC t9 - 1) + 1) 1 (mIn X Y RP RN (FG s9) (FG t9)) ls _ _ (Nat.lt_succ_self _) (by omega) (by omega) (by simp [anyB]) (lv_sub hl [0, 1, 4, 3, 2] rfl) hw

set_option maxHeartbeats 4000000 in
set_option maxRecDepth 100000 in
theorem c_X10_against (l : Launch) (D : va_G) (dT : Nat → ClassId) (ah : hA) (sz : Nat) (mo : Nat) (AR : Nat → Nat) (q : Nat → Int32) (g : Nat → Nat → Int32) (hm : moA dT ah mo AR q g) (np : Nat) (X Y : Nat → Int32) (hX : moX np g X Y) (nr : Nat) (RP RN : Nat → Nat) (hRg : moR np nr g RP RN) (ns : Nat) (FG RC PF PC : Nat → Nat) (KD WH PA : Nat → Int32) (hS : moS ns np nr g FG RC PF PC KD WH PA) (pl : Nat → Int32) (hpl : g 12 = pl) (hns : q 1 = nI ns) (w9 s9 i ka : Nat) (hs9 : s9 < ns) (hi9 : i < RC s9) (hka : ka < RN (FG s9 + i) - 1) : hMet l yX10_against cX10_against 10 (some .int) ({ frames := 6, cells := 0, slots := 0, locals := 145 }) D dT [.ref mo, .int (nI w9), .int (nI s9), .int (nI (FG s9 + i)), .int (nI (RP (FG s9 + i) + ka))] ah sz (fun r ah2 => moO dT ah ah2 mo AR q g pl (agO X Y RP RN ns FG RC WH PA pl w9 s9 i ka) r) 0 0 := by
  refine h_met (by decide) (Nat.le_of_ble_eq_true rfl) ?_
  intro p e s m below meth c ls R Q args hav hR hQ hB hl hsz hw
  obtain ⟨hx, hb, hml, hr, hts, hown, hlk, hin, hK⟩ := hB
  have hown : s.vm.findClass RX10 = some m.cls := hown
  have hl : lv_has ls 10 [(0, .ref mo), (1, .int (nI w9)), (2, .int (nI s9)), (3, .int (nI (FG s9 + i))), (4, .int (nI (RP (FG s9 + i) + ka)))] := hl
  have hnp := hX.1
  have hnr := hRg.1
  have hns9 := hS.1
  have hJ0 : moK dT ah ah mo AR q g q g := moK_r hm
  have hFR := (hS.2 s9 hs9).2.2.2.2.2.2.2.2
  have hri := (hRg.2 (FG s9 + i) (by omega)).2.2
  refine lv_iload_n hx hb dX10_against_0 rfl (lv_at hl 2 rfl) ?_
  refine lv_iconst (v := 1) hx hb dX10_against_1 (by decide) ?_
  refine lv_iadd hx hb dX10_against_2 ?_
  refine lv_topi (fun t_1 et_1 => ?_)
  obtain rfl : t_1 = nI (s9 + 1) := et_1.trans (nI_c _ 1)
  refine lv_istore (lv' := [(5, .int (nI (s9 + 1))), (0, .ref mo), (1, .int (nI w9)), (2, .int (nI s9)), (3, .int (nI (FG s9 + i))), (4, .int (nI (RP (FG s9 + i) + ka)))]) hx hb dX10_against_3 hl (by decide) rfl (fun ls hl => ?_)
  have LP5 : ∀ (k5 : Nat) (t : Nat) (q5 : Nat → Int32) (ah5 : hA) (ls : Array Slot) (H5 : Heap) (L5 : List Loc), (ns - t < k5) → (moK dT ah ah5 mo AR q g q5 g) → (s9 + 1 ≤ t) → (t ≤ ns) → (∀ j, j < t → agT X Y RP RN ns FG RC WH PA pl w9 s9 i ka j = none) → lv_has ls 10 [(5, .int (nI t)), (4, .int (nI (RP (FG s9 + i) + ka))), (3, .int (nI (FG s9 + i))), (2, .int (nI s9)), (1, .int (nI w9)), (0, .ref mo)] → hW D ah s.heap ah5 H5 L5 → W p l e R s m args below meth c H5 L5 (0) (0) Q (F0 m 5 ls []) := by
    intro k5
    induction k5 with
    | zero => intro t q5 ah5 ls H5 L5 hk; exact absurd hk (Nat.not_lt_zero _)
    | succ k5 ih5 =>
      intro t q5 ah5 ls H5 L5 hk5 hJ5 ht5 ht6 hp5 hl hw
      have hFt : t < ns → FG t + RC t ≤ nr := fun h9 => (hS.2 t h9).2.2.2.2.2.2.2.2
      have hrl := rcP_le WH RC w9 t
      refine lv_iload hx hb dX10_against_5 (lv_at hl 0 rfl) ?_
      refine lv_aload_n hx hb dX10_against_7 rfl (lv_at hl 5 rfl) ?_
      refine h_get (ci := 10) (v := .int (q5 1)) (C := RX10) (T := TX10) (N := 26) hx hb hts kl_X10 hown hK hw hJ5.1.1 rfl 1 (by decide) (hts _ kf_X10_59) rfl rfl dX10_against_8 ?_
      rw [show q5 1 = nI ns from ((hJ5.2.1 1 (by decide)).trans hns)]
      refine lv_icmp_ge (tgt := 201) hx hb dX10_against_11 (by decide) (fun c_2 => ?_) (fun c_2 => ?_)
      · skip
        have c_2 : ns ≤ t := (nI_lex (by rfl) (by rfl) (by omega) (by omega)).mp c_2
        refine lv_iconst (v := 0) hx hb dX10_against_201 (by decide) ?_
        rw [hQ]
        exact h_iret hx hb hr hlk hsz hw (by simp) (by simp) dX10_against_202 ⟨_, q5, g, rfl, hJ5, (by rw [show agO X Y RP RN ns FG RC WH PA pl w9 s9 i ka = none from firstO_none (fun j hj => hp5 j (by omega))]; exact ⟨rfl, hpl⟩)⟩
      · skip
        have c_2 : ¬ (ns ≤ t) := (not_congr (nI_lex (by rfl) (by rfl) (by omega) (by omega))).mp c_2
        refine lv_aload_n hx hb dX10_against_14 rfl (lv_at hl 5 rfl) ?_
        refine lv_iload hx hb dX10_against_15 (lv_at hl 0 rfl) ?_
        refine lv_iload_n hx hb dX10_against_17 rfl (lv_at hl 4 rfl) ?_
        refine h_callV (n := 2) (ci := 10) (b := mo) (As := [.int (nI t), .int (nI w9)]) (rest := []) ⟨hx, hb, hml, hown, hts⟩ hK hw (c_X10_isPart l D dT ah5 H5.size mo AR q5 g hJ5.1 np X Y hX nr RP RN hRg ns FG RC PF PC KD WH PA hS t w9 (by omega)) ko_X10_isPart km_X10_214 ki_X10_isPart ks_X10_isPart kn_X10 (by decide +kernel) rfl hJ5.1.1 rfl hl.1 rfl (by simp [Value.category]) dX10_against_18 (by rw [hR]; exact ⟨rfl, rfl, Nat.le_of_ble_eq_true rfl, Nat.le_of_ble_eq_true rfl, by simp, by simp⟩) (fun r_3 ah_4 H_5 L_6 st_7 hp hw hst => ?_)
        obtain ⟨rfl, rfl⟩ := hp
        have hst : st_7 = [.int (bI (mPart WH RC t w9))] := hst
        subst hst
        have J_11 : ∀ (v_10 : Int32) (ls : Array Slot), lv_has ls 10 [(5, .int (nI t)), (4, .int (nI (RP (FG s9 + i) + ka))), (3, .int (nI (FG s9 + i))), (2, .int (nI s9)), (1, .int (nI w9)), (0, .ref mo)] → v_10 = (if mPart WH RC t w9 = false then nI (FG t) else nI (FG t + RC t)) → W p l e R s m args below meth c H_5 L_6 (0) (0) Q (F0 m 49 ls [.int v_10]) := by
          intro v_10 ls hl ev_10
          have hv9 : v_10 = nI (FG t + rcP WH RC w9 t) := ev_10.trans rcP_e
          subst hv9
          refine lv_istore (lv' := [(6, .int (nI (FG t + rcP WH RC w9 t))), (5, .int (nI t)), (4, .int (nI (RP (FG s9 + i) + ka))), (3, .int (nI (FG s9 + i))), (2, .int (nI s9)), (1, .int (nI w9)), (0, .ref mo)]) hx hb dX10_against_49 hl (by decide) rfl (fun ls hl => ?_)
          refine lv_aload_n hx hb dX10_against_51 rfl (lv_at hl 6 rfl) ?_
          refine h_get (ci := 10) (v := .ref (AR 5)) (C := RX10) (T := TX10) (N := 26) hx hb hts kl_X10 hown hK hw hJ5.1.1 rfl 10 (by decide) (hts _ kf_X10_25) rfl rfl dX10_against_52 ?_
          refine lv_iload hx hb dX10_against_55 (lv_at hl 1 rfl) ?_
          refine h_iald hx hb hK hw (moA_a (n := 2048) (f := g 5) hJ5.1 5 (by decide) rfl rfl) t rfl (by omega) (by omega) dX10_against_57 ?_
          rw [show (g 5) t = nI (FG t) from (hS.2 _ (by omega)).2.2.2.2.2.1]
          refine lv_istore (lv' := [(7, .int (nI (FG t))), (6, .int (nI (FG t + rcP WH RC w9 t))), (5, .int (nI t)), (4, .int (nI (RP (FG s9 + i) + ka))), (3, .int (nI (FG s9 + i))), (2, .int (nI s9)), (1, .int (nI w9)), (0, .ref mo)]) hx hb dX10_against_58 hl (by decide) rfl (fun ls hl => ?_)
          have LP60 : ∀ (k60 : Nat) (j : Nat) (q60 : Nat → Int32) (ah60 : hA) (ls : Array Slot) (H60 : Heap) (L60 : List Loc), (rcP WH RC w9 t - j < k60) → (moK dT ah ah60 mo AR q g q60 g) → (j ≤ rcP WH RC w9 t) → (∀ x, x < j → agJ X Y RP RN ns FG RC WH PA pl w9 s9 i ka t x = none) → lv_has ls 10 [(7, .int (nI (FG t + j))), (6, .int (nI (FG t + rcP WH RC w9 t))), (5, .int (nI t)), (4, .int (nI (RP (FG s9 + i) + ka))), (3, .int (nI (FG s9 + i))), (2, .int (nI s9)), (1, .int (nI w9)), (0, .ref mo)] → hW D ah s.heap ah60 H60 L60 → W p l e R s m args below meth c H60 L60 (0) (0) Q (F0 m 60 ls []) := by
            intro k60
            induction k60 with
            | zero => intro j q60 ah60 ls H60 L60 hk; exact absurd hk (Nat.not_lt_zero _)
            | succ k60 ih60 =>
              intro j q60 ah60 ls H60 L60 hk60 hJ60 hj60 hp60 hl hw
              have hFt := hFt (by omega)
              have hrt : ∀ j, j < rcP WH RC w9 t → RP (FG t + j) + RN (FG t + j) ≤ np := fun j h9 => (hRg.2 _ (by have := rcP_le WH RC w9 t; omega)).2.2
              refine lv_iload hx hb dX10_against_60 (lv_at hl 0 rfl) ?_
              refine lv_iload hx hb dX10_against_62 (lv_at hl 1 rfl) ?_
              refine lv_icmp_ge (tgt := 195) hx hb dX10_against_64 (by decide) (fun c_12 => ?_) (fun c_12 => ?_)
              · skip
                have c_12 : FG t + rcP WH RC w9 t ≤ FG t + j := (nI_lex (by rfl) (by rfl) (by omega) (by omega)).mp c_12
                refine lv_iinc (v := nI (t + 1)) (lv' := [(5, .int (nI (t + 1))), (7, .int (nI (FG t + j))), (6, .int (nI (FG t + rcP WH RC w9 t))), (4, .int (nI (RP (FG s9 + i) + ka))), (3, .int (nI (FG s9 + i))), (2, .int (nI s9)), (1, .int (nI w9)), (0, .ref mo)]) hx hb dX10_against_195 hl (k := 2) rfl (nI_c _ 1) (by decide) rfl (fun ls hl => ?_)
                refine lv_goto (tgt := 5) hx hb dX10_against_198 (by decide) ?_
                exact ih5 (t + 1) q60 ah60 ls _ _ (by omega) hJ60 (by omega) (by omega) (lt_o hp5 (agT_n (fun j hj => hp60 j (by omega)))) (lv_sub hl [0, 3, 4, 5, 6, 7] rfl) hw
              · skip
                have c_12 : ¬ (FG t + rcP WH RC w9 t ≤ FG t + j) := (not_congr (nI_lex (by rfl) (by rfl) (by omega) (by omega))).mp c_12
                refine lv_aload_n hx hb dX10_against_67 rfl (lv_at hl 7 rfl) ?_
                refine h_get (ci := 10) (v := .ref (AR 7)) (C := RX10) (T := TX10) (N := 26) hx hb hts kl_X10 hown hK hw hJ60.1.1 rfl 12 (by decide) (hts _ kf_X10_31) rfl rfl dX10_against_68 ?_
                refine lv_iload hx hb dX10_against_71 (lv_at hl 0 rfl) ?_
                refine h_iald hx hb hK hw (moA_a (n := 4096) (f := g 7) hJ60.1 7 (by decide) rfl rfl) (FG t + j) rfl (by omega) (by omega) dX10_against_73 ?_
                rw [show (g 7) (FG t + j) = nI (RP (FG t + j)) from (hRg.2 _ (by omega)).1]
                refine lv_istore (lv' := [(8, .int (nI (RP (FG t + j)))), (7, .int (nI (FG t + j))), (6, .int (nI (FG t + rcP WH RC w9 t))), (5, .int (nI t)), (4, .int (nI (RP (FG s9 + i) + ka))), (3, .int (nI (FG s9 + i))), (2, .int (nI s9)), (1, .int (nI w9)), (0, .ref mo)]) hx hb dX10_against_74 hl (by decide) rfl (fun ls hl => ?_)
                have LP76 : ∀ (k76 : Nat) (kb : Nat) (q76 : Nat → Int32) (ah76 : hA) (ls : Array Slot) (H76 : Heap) (L76 : List Loc), (RN (FG t + j) - kb < k76) → (moK dT ah ah76 mo AR q g q76 g) → (∀ x, x < kb → agB X Y RP RN ns FG RC WH PA pl w9 s9 i ka t j x = none) → (kb ≤ RN (FG t + j) - 1) → lv_has ls 10 [(8, .int (nI (RP (FG t + j) + kb))), (7, .int (nI (FG t + j))), (6, .int (nI (FG t + rcP WH RC w9 t))), (5, .int (nI t)), (4, .int (nI (RP (FG s9 + i) + ka))), (3, .int (nI (FG s9 + i))), (2, .int (nI s9)), (1, .int (nI w9)), (0, .ref mo)] → hW D ah s.heap ah76 H76 L76 → W p l e R s m args below meth c H76 L76 (0) (0) Q (F0 m 76 ls []) := by
                  intro k76
                  induction k76 with
                  | zero => intro kb q76 ah76 ls H76 L76 hk; exact absurd hk (Nat.not_lt_zero _)
                  | succ k76 ih76 =>
                    intro kb q76 ah76 ls H76 L76 hk76 hJ76 hp76 hk76 hl hw
                    have hrt := hrt j (by omega)
                    refine lv_iload hx hb dX10_against_76 (lv_at hl 0 rfl) ?_
                    refine lv_aload_n hx hb dX10_against_78 rfl (lv_at hl 8 rfl) ?_
                    refine lv_iload hx hb dX10_against_79 (lv_at hl 1 rfl) ?_
                    refine h_callV (n := 1) (ci := 10) (b := mo) (As := [.int (nI (FG t + j))]) (rest := [.int (nI (RP (FG t + j) + kb))]) ⟨hx, hb, hml, hown, hts⟩ hK hw (c_X10_end l D dT ah76 H76.size mo AR q76 g hJ76.1 np X Y hX nr RP RN hRg (FG t + j) (by omega)) ko_X10_end km_X10_129 ki_X10_end ks_X10_end kn_X10 (by decide +kernel) rfl hJ76.1.1 rfl hl.1 rfl (by simp [Value.category]) dX10_against_81 (by rw [hR]; exact ⟨rfl, rfl, Nat.le_of_ble_eq_true rfl, Nat.le_of_ble_eq_true rfl, by simp, by simp⟩) (fun r_14 ah_15 H_16 L_17 st_18 hp hw hst => ?_)
                    obtain ⟨rfl, rfl⟩ := hp
                    have hst : st_18 = [.int (nI (RP (FG t + j) + RN (FG t + j)) - 1), .int (nI (RP (FG t + j) + kb))] := hst
                    subst hst
                    refine lv_icmp_ge (tgt := 189) hx hb dX10_against_84 (by decide) (fun c_19 => ?_) (fun c_19 => ?_)
                    · skip
                      have c_19 : RP (FG t + j) + RN (FG t + j) ≤ RP (FG t + j) + kb + 1 := (nIm_le (by omega) (by omega)).mp c_19
                      refine lv_iinc (v := nI (FG t + j + 1)) (lv' := [(7, .int (nI (FG t + j + 1))), (8, .int (nI (RP (FG t + j) + kb))), (6, .int (nI (FG t + rcP WH RC w9 t))), (5, .int (nI t)), (4, .int (nI (RP (FG s9 + i) + ka))), (3, .int (nI (FG s9 + i))), (2, .int (nI s9)), (1, .int (nI w9)), (0, .ref mo)]) hx hb dX10_against_189 hl (k := 1) rfl (nI_c _ 1) (by decide) rfl (fun ls hl => ?_)
                      refine lv_goto (tgt := 60) hx hb dX10_against_192 (by decide) ?_
                      exact ih60 (j + 1) q76 ah76 ls _ _ (by omega) hJ76 (by omega) (lt_o hp60 (firstO_none (fun x hx => hp76 x (by omega)))) (lv_sub hl [0, 2, 3, 4, 5, 6, 7, 8] rfl) hw
                    · skip
                      have c_19 : ¬ (RP (FG t + j) + RN (FG t + j) ≤ RP (FG t + j) + kb + 1) := (not_congr (nIm_le (by omega) (by omega))).mp c_19
                      refine lv_aload_n hx hb dX10_against_87 rfl (lv_at hl 8 rfl) ?_
                      refine lv_iload hx hb dX10_against_88 (lv_at hl 0 rfl) ?_
                      refine h_callV (n := 1) (ci := 10) (b := mo) (As := [.int (nI (RP (FG t + j) + kb))]) (rest := []) ⟨hx, hb, hml, hown, hts⟩ hK hw (c_X10_isSegment l D dT ah76 H_16.size mo AR q76 g hJ76.1 np X Y hX (RP (FG t + j) + kb) (by omega)) ko_X10_isSegment km_X10_132 ki_X10_isSegment ks_X10_isSegment kn_X10 (by decide +kernel) rfl hJ76.1.1 rfl hl.1 rfl (by simp [Value.category]) dX10_against_90 (by rw [hR]; exact ⟨rfl, rfl, Nat.le_of_ble_eq_true rfl, Nat.le_of_ble_eq_true rfl, by simp, by simp⟩) (fun r_21 ah_22 H_23 L_24 st_25 hp hw hst => ?_)
                      obtain ⟨rfl, rfl⟩ := hp
                      have hst : st_25 = [.int (bI (mSeg X Y (RP (FG t + j) + kb)))] := hst
                      subst hst
                      refine lv_if_eq (tgt := 110) hx hb dX10_against_93 (by decide) (fun c_26 => ?_) (fun c_26 => ?_)
                      · skip
                        have c_26 : mSeg X Y (RP (FG t + j) + kb) = false := bI_0.mp c_26
                        refine lv_iconst (v := 0) hx hb dX10_against_110 (by decide) ?_
                        refine lv_istore (lv' := [(9, .int 0), (8, .int (nI (RP (FG t + j) + kb))), (7, .int (nI (FG t + j))), (6, .int (nI (FG t + rcP WH RC w9 t))), (5, .int (nI t)), (4, .int (nI (RP (FG s9 + i) + ka))), (3, .int (nI (FG s9 + i))), (2, .int (nI s9)), (1, .int (nI w9)), (0, .ref mo)]) hx hb dX10_against_111 hl (by decide) rfl (fun ls hl => ?_)
                        refine lv_iload hx hb dX10_against_113 (lv_at hl 0 rfl) ?_
                        refine lv_if_le (tgt := 183) hx hb dX10_against_115 (by decide) (fun c_27 => ?_) (fun c_27 => ?_)
                        · skip
                          refine lv_iinc (v := nI (RP (FG t + j) + kb + 1)) (lv' := [(8, .int (nI (RP (FG t + j) + kb + 1))), (9, .int 0), (7, .int (nI (FG t + j))), (6, .int (nI (FG t + rcP WH RC w9 t))), (5, .int (nI t)), (4, .int (nI (RP (FG s9 + i) + ka))), (3, .int (nI (FG s9 + i))), (2, .int (nI s9)), (1, .int (nI w9)), (0, .ref mo)]) hx hb dX10_against_183 hl (k := 1) rfl (nI_c _ 1) (by decide) rfl (fun ls hl => ?_)
                          refine lv_goto (tgt := 76) hx hb dX10_against_186 (by decide) ?_
                          exact ih76 (kb + 1) q76 ah76 ls _ _ (by omega) hJ76 (lt_o hp76 (agB_g c_26)) (by omega) (lv_sub hl [0, 2, 3, 4, 5, 6, 7, 8, 9] rfl) hw
                        · exact absurd c_27 (by decide)
                      · skip
                        have c_26 : ¬ (mSeg X Y (RP (FG t + j) + kb) = false) := (not_congr bI_0).mp c_26
                        refine lv_aload_n hx hb dX10_against_96 rfl (lv_at hl 8 rfl) ?_
                        refine lv_iload_n hx hb dX10_against_97 rfl (lv_at hl 5 rfl) ?_
                        refine lv_iload hx hb dX10_against_98 (lv_at hl 4 rfl) ?_
                        refine lv_iload hx hb dX10_against_100 (lv_at hl 1 rfl) ?_
                        refine lv_iload hx hb dX10_against_102 (lv_at hl 0 rfl) ?_
                        refine h_callV (n := 4) (ci := 10) (b := mo) (As := [.int (nI (FG s9 + i)), .int (nI (RP (FG s9 + i) + ka)), .int (nI (FG t + j)), .int (nI (RP (FG t + j) + kb))]) (rest := []) ⟨hx, hb, hml, hown, hts⟩ hK hw (c_X10_pair l D dT ah76 H_23.size mo AR q76 g hJ76.1 np X Y hX nr RP RN hRg (FG s9 + i) (RP (FG s9 + i) + ka) (FG t + j) (RP (FG t + j) + kb) (by omega) (by omega) (by omega) (by omega) (by omega) (by omega)) ko_X10_pair km_X10_185 ki_X10_pair ks_X10_pair kn_X10 (by decide +kernel) rfl hJ76.1.1 rfl hl.1 rfl (by simp [Value.category]) dX10_against_104 (by rw [hR]; exact ⟨rfl, rfl, Nat.le_of_ble_eq_true rfl, Nat.le_of_ble_eq_true rfl, by simp, by simp⟩) (fun r_29 ah_30 H_31 L_32 st_33 hp hw hst => ?_)
                        rw [mPair_f] at hp
                        obtain ⟨q_34, rfl, eah_30, hlq_34⟩ := hp
                        have hJ_35 : moK dT ah ah_30 mo AR q g q_34 g := moK_q hJ76 eah_30 hlq_34
                        have hst : st_33 = [.int (mPr X Y RP RN (FG s9 + i) (RP (FG s9 + i) + ka) (FG t + j) (RP (FG t + j) + kb))] := hst
                        subst hst
                        refine lv_goto (tgt := 111) hx hb dX10_against_107 (by decide) ?_
                        refine lv_istore (lv' := [(9, .int (mPr X Y RP RN (FG s9 + i) (RP (FG s9 + i) + ka) (FG t + j) (RP (FG t + j) + kb))), (8, .int (nI (RP (FG t + j) + kb))), (7, .int (nI (FG t + j))), (6, .int (nI (FG t + rcP WH RC w9 t))), (5, .int (nI t)), (4, .int (nI (RP (FG s9 + i) + ka))), (3, .int (nI (FG s9 + i))), (2, .int (nI s9)), (1, .int (nI w9)), (0, .ref mo)]) hx hb dX10_against_111 hl (by decide) rfl (fun ls hl => ?_)
                        refine lv_iload hx hb dX10_against_113 (lv_at hl 0 rfl) ?_
                        refine lv_if_le (tgt := 183) hx hb dX10_against_115 (by decide) (fun c_36 => ?_) (fun c_36 => ?_)
                        · skip
                          refine lv_iinc (v := nI (RP (FG t + j) + kb + 1)) (lv' := [(8, .int (nI (RP (FG t + j) + kb + 1))), (9, .int (mPr X Y RP RN (FG s9 + i) (RP (FG s9 + i) + ka) (FG t + j) (RP (FG t + j) + kb))), (7, .int (nI (FG t + j))), (6, .int (nI (FG t + rcP WH RC w9 t))), (5, .int (nI t)), (4, .int (nI (RP (FG s9 + i) + ka))), (3, .int (nI (FG s9 + i))), (2, .int (nI s9)), (1, .int (nI w9)), (0, .ref mo)]) hx hb dX10_against_183 hl (k := 1) rfl (nI_c _ 1) (by decide) rfl (fun ls hl => ?_)
                          refine lv_goto (tgt := 76) hx hb dX10_against_186 (by decide) ?_
                          exact ih76 (kb + 1) q_34 ah_30 ls _ _ (by omega) hJ_35 (lt_o hp76 (agB_n c_36)) (by omega) (lv_sub hl [0, 2, 3, 4, 5, 6, 7, 8, 9] rfl) hw
                        · skip
                          refine lv_aload_n hx hb dX10_against_118 rfl (lv_at hl 9 rfl) ?_
                          refine lv_aload_n hx hb dX10_against_119 rfl (lv_at hl 9 rfl) ?_
                          refine h_get (ci := 10) (v := .ref (AR 2)) (C := RX10) (T := TX10) (N := 26) hx hb hts kl_X10 hown hK hw hJ_35.1.1 rfl 7 (by decide) (hts _ kf_X10_16) rfl rfl dX10_against_120 ?_
                          refine lv_iload hx hb dX10_against_123 (lv_at hl 4 rfl) ?_
                          refine h_iald hx hb hK hw (moA_a (n := 2048) (f := g 2) hJ_35.1 2 (by decide) rfl rfl) t rfl (by omega) (by omega) dX10_against_125 ?_
                          rw [show (g 2) t = PA t from (hS.2 _ (by omega)).2.2.1]
                          refine lv_iload hx hb dX10_against_126 (lv_at hl 2 rfl) ?_
                          refine lv_aload_n hx hb dX10_against_128 rfl (lv_at hl 9 rfl) ?_
                          refine h_get (ci := 10) (v := .ref (AR 5)) (C := RX10) (T := TX10) (N := 26) hx hb hts kl_X10 hown hK hw hJ_35.1.1 rfl 10 (by decide) (hts _ kf_X10_25) rfl rfl dX10_against_129 ?_
                          refine lv_iload hx hb dX10_against_132 (lv_at hl 4 rfl) ?_
                          refine h_iald hx hb hK hw (moA_a (n := 2048) (f := g 5) hJ_35.1 5 (by decide) rfl rfl) t rfl (by omega) (by omega) dX10_against_134 ?_
                          rw [show (g 5) t = nI (FG t) from (hS.2 _ (by omega)).2.2.2.2.2.1]
                          refine lv_isub hx hb dX10_against_135 ?_
                          refine lv_topi (fun t_38 et_38 => ?_)
                          obtain rfl : t_38 = nI j := et_38.trans (nI_subl _ _)
                          refine lv_iload hx hb dX10_against_136 (lv_at hl 1 rfl) ?_
                          refine lv_aload_n hx hb dX10_against_138 rfl (lv_at hl 9 rfl) ?_
                          refine h_get (ci := 10) (v := .ref (AR 7)) (C := RX10) (T := TX10) (N := 26) hx hb hts kl_X10 hown hK hw hJ_35.1.1 rfl 12 (by decide) (hts _ kf_X10_31) rfl rfl dX10_against_139 ?_
                          refine lv_iload hx hb dX10_against_142 (lv_at hl 2 rfl) ?_
                          refine h_iald hx hb hK hw (moA_a (n := 4096) (f := g 7) hJ_35.1 7 (by decide) rfl rfl) (FG t + j) rfl (by omega) (by omega) dX10_against_144 ?_
                          rw [show (g 7) (FG t + j) = nI (RP (FG t + j)) from (hRg.2 _ (by omega)).1]
                          refine lv_isub hx hb dX10_against_145 ?_
                          refine lv_topi (fun t_39 et_39 => ?_)
                          obtain rfl : t_39 = nI kb := et_39.trans (nI_subl _ _)
                          refine h_callV (n := 3) (ci := 10) (b := mo) (As := [.int (PA t), .int (nI j), .int (nI kb)]) (rest := []) ⟨hx, hb, hml, hown, hts⟩ hK hw (c_X10_other l D dT ah_30 H_31.size mo AR q_34 g hJ_35.1 pl hpl (PA t) (nI j) (nI kb)) ko_X10_other km_X10_188 ki_X10_other ks_X10_other kn_X10 (by decide +kernel) rfl hJ_35.1.1 rfl hl.1 rfl (by simp [Value.category]) dX10_against_146 (by rw [hR]; exact ⟨rfl, rfl, Nat.le_of_ble_eq_true rfl, Nat.le_of_ble_eq_true rfl, by simp, by simp⟩) (fun r_40 ah_41 H_42 L_43 st_44 hp hw hst => ?_)
                          obtain ⟨rfl, eah_41⟩ := hp
                          have hJ_46 : moK dT ah ah_41 mo AR q g q_34 (va_up g 12 (p2 pl (PA t) (nI j) (nI kb))) := moK_g hJ_35 12 (by decide) eah_41
                          have hst : st_44 = [] := hst
                          subst hst
                          refine lv_aload_n hx hb dX10_against_149 rfl (lv_at hl 9 rfl) ?_
                          refine lv_iload hx hb dX10_against_150 (lv_at hl 0 rfl) ?_
                          refine lv_bipush (v := 6) hx hb dX10_against_152 (by decide) ?_
                          refine lv_iadd hx hb dX10_against_154 ?_
                          refine lv_iload_n hx hb dX10_against_155 rfl (lv_at hl 8 rfl) ?_
                          refine lv_aload_n hx hb dX10_against_156 rfl (lv_at hl 9 rfl) ?_
                          refine h_get (ci := 10) (v := .ref (AR 2)) (C := RX10) (T := TX10) (N := 26) hx hb hts kl_X10 hown hK hw hJ_46.1.1 rfl 7 (by decide) (hts _ kf_X10_16) rfl rfl dX10_against_157 ?_
                          refine lv_iload_n hx hb dX10_against_160 rfl (lv_at hl 7 rfl) ?_
                          refine h_iald hx hb hK hw (moA_a (n := 2048) (f := g 2) hJ_46.1 2 (by decide) rfl rfl) s9 rfl (by omega) (by omega) dX10_against_161 ?_
                          rw [show (g 2) s9 = PA s9 from (hS.2 _ (by omega)).2.2.1]
                          refine lv_iload_n hx hb dX10_against_162 rfl (lv_at hl 6 rfl) ?_
                          refine lv_aload_n hx hb dX10_against_163 rfl (lv_at hl 9 rfl) ?_
                          refine h_get (ci := 10) (v := .ref (AR 5)) (C := RX10) (T := TX10) (N := 26) hx hb hts kl_X10 hown hK hw hJ_46.1.1 rfl 10 (by decide) (hts _ kf_X10_25) rfl rfl dX10_against_164 ?_
                          refine lv_iload_n hx hb dX10_against_167 rfl (lv_at hl 7 rfl) ?_
                          refine h_iald hx hb hK hw (moA_a (n := 2048) (f := g 5) hJ_46.1 5 (by decide) rfl rfl) s9 rfl (by omega) (by omega) dX10_against_168 ?_
                          rw [show (g 5) s9 = nI (FG s9) from (hS.2 _ (by omega)).2.2.2.2.2.1]
                          refine lv_isub hx hb dX10_against_169 ?_
                          refine lv_topi (fun t_47 et_47 => ?_)
                          obtain rfl : t_47 = nI i := et_47.trans (nI_subl _ _)
                          refine lv_iload hx hb dX10_against_170 (lv_at hl 5 rfl) ?_
                          refine lv_aload_n hx hb dX10_against_172 rfl (lv_at hl 9 rfl) ?_
                          refine h_get (ci := 10) (v := .ref (AR 7)) (C := RX10) (T := TX10) (N := 26) hx hb hts kl_X10 hown hK hw hJ_46.1.1 rfl 12 (by decide) (hts _ kf_X10_31) rfl rfl dX10_against_173 ?_
                          refine lv_iload_n hx hb dX10_against_176 rfl (lv_at hl 6 rfl) ?_
                          refine h_iald hx hb hK hw (moA_a (n := 4096) (f := g 7) hJ_46.1 7 (by decide) rfl rfl) (FG s9 + i) rfl (by omega) (by omega) dX10_against_177 ?_
                          rw [show (g 7) (FG s9 + i) = nI (RP (FG s9 + i)) from (hRg.2 _ (by omega)).1]
                          refine lv_isub hx hb dX10_against_178 ?_
                          refine lv_topi (fun t_48 et_48 => ?_)
                          obtain rfl : t_48 = nI ka := et_48.trans (nI_subl _ _)
                          refine h_callV (n := 5) (ci := 10) (b := mo) (As := [.int (mPr X Y RP RN (FG s9 + i) (RP (FG s9 + i) + ka) (FG t + j) (RP (FG t + j) + kb) + 6), .int (nI w9), .int (PA s9), .int (nI i), .int (nI ka)]) (rest := []) ⟨hx, hb, hml, hown, hts⟩ hK hw (c_X10_told l D dT ah_41 H_42.size mo AR q_34 (va_up g 12 (p2 pl (PA t) (nI j) (nI kb))) hJ_46.1 (p2 pl (PA t) (nI j) (nI kb)) rfl (mPr X Y RP RN (FG s9 + i) (RP (FG s9 + i) + ka) (FG t + j) (RP (FG t + j) + kb) + 6) (nI w9) (PA s9) (nI i) (nI ka)) ko_X10_told km_X10_178 ki_X10_told ks_X10_told kn_X10 (by decide +kernel) rfl hJ_46.1.1 rfl hl.1 rfl (by simp [Value.category]) dX10_against_179 (by rw [hR]; exact ⟨rfl, rfl, Nat.le_of_ble_eq_true rfl, Nat.le_of_ble_eq_true rfl, by simp, by simp⟩) (fun r_49 ah_50 H_51 L_52 st_53 hp hw hst => ?_)
                          obtain ⟨rfl, eah_50⟩ := hp
                          have hJ_55 : moK dT ah ah_50 mo AR q g q_34 (va_up (va_up g 12 (p2 pl (PA t) (nI j) (nI kb))) 12 (p1 (upd (p2 pl (PA t) (nI j) (nI kb)) 0 (nI w9)) (PA s9) (nI i) (nI ka))) := moK_g hJ_46 12 (by decide) eah_50
                          have hst : st_53 = [.int (mPr X Y RP RN (FG s9 + i) (RP (FG s9 + i) + ka) (FG t + j) (RP (FG t + j) + kb) + 6)] := hst
                          subst hst
                          rw [hQ]
                          exact h_iret hx hb hr hlk hsz hw (by simp) (by simp) dX10_against_182 ⟨_, q_34, (va_up (va_up g 12 (p2 pl (PA t) (nI j) (nI kb))) 12 (p1 (upd (p2 pl (PA t) (nI j) (nI kb)) 0 (nI w9)) (PA s9) (nI i) (nI ka))), rfl, hJ_55, (by rw [show agO X Y RP RN ns FG RC WH PA pl w9 s9 i ka = some ((mPr X Y RP RN (FG s9 + i) (RP (FG s9 + i) + ka) (FG t + j) (RP (FG t + j) + kb) + 6), p2 (p1 (upd pl 0 (nI w9)) (PA s9) (nI i) (nI ka)) (PA t) (nI j) (nI kb)) from firstO_some (i := t) (by omega) (agT_y ht5 (firstO_some (i := j) (by omega) (firstO_some (i := kb) (by omega) (agB_s c_26 c_36) hp76) hp60)) hp5]; exact ⟨rfl, (mPr_6 c_36), pp_c⟩)⟩
                exact LP76 ((RN (FG t + j) - 0) + 1) 0 q60 ah60 ls _ _ (Nat.lt_succ_self _) hJ60 (fun j hj => absurd hj (Nat.not_lt_zero _)) (by omega) (lv_sub hl [0, 1, 2, 3, 4, 5, 6, 7, 8] rfl) hw
          exact LP60 ((rcP WH RC w9 t - 0) + 1) 0 q5 ah5 ls _ _ (Nat.lt_succ_self _) hJ5 (by omega) (fun j hj => absurd hj (Nat.not_lt_zero _)) (lv_sub hl [0, 1, 2, 3, 4, 5, 6, 7] rfl) hw
        refine lv_if_eq (tgt := 42) hx hb dX10_against_21 (by decide) (fun c_8 => ?_) (fun c_8 => ?_)
        · skip
          have c_8 : mPart WH RC t w9 = false := bI_0.mp c_8
          refine lv_aload_n hx hb dX10_against_42 rfl (lv_at hl 5 rfl) ?_
          refine h_get (ci := 10) (v := .ref (AR 5)) (C := RX10) (T := TX10) (N := 26) hx hb hts kl_X10 hown hK hw hJ5.1.1 rfl 10 (by decide) (hts _ kf_X10_25) rfl rfl dX10_against_43 ?_
          refine lv_iload hx hb dX10_against_46 (lv_at hl 0 rfl) ?_
          refine h_iald hx hb hK hw (moA_a (n := 2048) (f := g 5) hJ5.1 5 (by decide) rfl rfl) t rfl (by omega) (by omega) dX10_against_48 ?_
          rw [show (g 5) t = nI (FG t) from (hS.2 _ (by omega)).2.2.2.2.2.1]
          exact J_11 (nI (FG t)) ls (lv_sub hl [0, 1, 2, 3, 4, 5] rfl) (by rw [if_pos c_8])
        · skip
          have c_8 : ¬ (mPart WH RC t w9 = false) := (not_congr bI_0).mp c_8
          refine lv_aload_n hx hb dX10_against_24 rfl (lv_at hl 5 rfl) ?_
          refine h_get (ci := 10) (v := .ref (AR 5)) (C := RX10) (T := TX10) (N := 26) hx hb hts kl_X10 hown hK hw hJ5.1.1 rfl 10 (by decide) (hts _ kf_X10_25) rfl rfl dX10_against_25 ?_
          refine lv_iload hx hb dX10_against_28 (lv_at hl 0 rfl) ?_
          refine h_iald hx hb hK hw (moA_a (n := 2048) (f := g 5) hJ5.1 5 (by decide) rfl rfl) t rfl (by omega) (by omega) dX10_against_30 ?_
          rw [show (g 5) t = nI (FG t) from (hS.2 _ (by omega)).2.2.2.2.2.1]
          refine lv_aload_n hx hb dX10_against_31 rfl (lv_at hl 5 rfl) ?_
          refine h_get (ci := 10) (v := .ref (AR 6)) (C := RX10) (T := TX10) (N := 26) hx hb hts kl_X10 hown hK hw hJ5.1.1 rfl 11 (by decide) (hts _ kf_X10_28) rfl rfl dX10_against_32 ?_
          refine lv_iload hx hb dX10_against_35 (lv_at hl 0 rfl) ?_
          refine h_iald hx hb hK hw (moA_a (n := 2048) (f := g 6) hJ5.1 6 (by decide) rfl rfl) t rfl (by omega) (by omega) dX10_against_37 ?_
          rw [show (g 6) t = nI (RC t) from (hS.2 _ (by omega)).2.2.2.2.2.2.1]
          refine lv_iadd hx hb dX10_against_38 ?_
          refine lv_topi (fun t_9 et_9 => ?_)
          obtain rfl : t_9 = nI (FG t + RC t) := et_9.trans (nI_add _ _)
          refine lv_goto (tgt := 49) hx hb dX10_against_39 (by decide) ?_
          exact J_11 (nI (FG t + RC t)) ls (lv_sub hl [0, 1, 2, 3, 4, 5] rfl) (by rw [if_neg c_8])
  exact LP5 ((ns - (s9 + 1)) + 1) (s9 + 1) q ah ls _ _ (Nat.lt_succ_self _) hJ0 (by omega) (by omega) (fun j hj => if_pos hj) (lv_sub hl [0, 5, 4, 3, 2, 1] rfl) hw

set_option maxHeartbeats 4000000 in
set_option maxRecDepth 100000 in
theorem c_X10_apart (l : Launch) (D : va_G) (dT : Nat → ClassId) (ah : hA) (sz : Nat) (mo : Nat) (AR : Nat → Nat) (q : Nat → Int32) (g : Nat → Nat → Int32) (hm : moA dT ah mo AR q g) (np : Nat) (X Y : Nat → Int32) (hX : moX np g X Y) (nr : Nat) (RP RN : Nat → Nat) (hRg : moR np nr g RP RN) (ns : Nat) (FG RC PF PC : Nat → Nat) (KD WH PA : Nat → Int32) (hS : moS ns np nr g FG RC PF PC KD WH PA) (pl : Nat → Int32) (hpl : g 12 = pl) (hns : q 1 = nI ns) (w9 : Nat) (hw9 : w9 < ns) : hMet l yX10_apart cX10_apart 7 (some .int) ({ frames := 7, cells := 0, slots := 0, locals := 174 }) D dT [.ref mo, .int (nI w9)] ah sz (fun r ah2 => moO dT ah ah2 mo AR q g pl (apO X Y RP RN ns FG RC WH PA pl w9) r) 0 0 := by
  refine h_met (by decide) (Nat.le_of_ble_eq_true rfl) ?_
  intro p e s m below meth c ls R Q args hav hR hQ hB hl hsz hw
  obtain ⟨hx, hb, hml, hr, hts, hown, hlk, hin, hK⟩ := hB
  have hown : s.vm.findClass RX10 = some m.cls := hown
  have hl : lv_has ls 7 [(0, .ref mo), (1, .int (nI w9))] := hl
  have hnp := hX.1
  have hnr := hRg.1
  have hns9 := hS.1
  have hJ0 : moK dT ah ah mo AR q g q g := moK_r hm
  have hX0 := hX
  have hRg0 := hRg
  have hS0 := hS
  refine lv_iconst (v := 0) hx hb dX10_apart_0 (by decide) ?_
  refine lv_istore_n (lv' := [(2, .int 0), (0, .ref mo), (1, .int (nI w9))]) hx hb dX10_apart_1 rfl hl (by decide) rfl (fun ls hl => ?_)
  have LP2 : ∀ (k2 : Nat) (u9 : Nat) (q2 : Nat → Int32) (g2 : Nat → Nat → Int32) (ah2 : hA) (ls : Array Slot) (H2 : Heap) (L2 : List Loc), (ns - u9 < k2) → (moK dT ah ah2 mo AR q g q2 g2) → (g2 12 = pl) → (u9 ≤ ns) → (∀ j, j < u9 → firstO (rcP WH RC w9 j) (apI X Y RP RN ns FG RC WH PA pl w9 j) = none) → lv_has ls 7 [(2, .int (nI u9)), (1, .int (nI w9)), (0, .ref mo)] → hW D ah s.heap ah2 H2 L2 → W p l e R s m args below meth c H2 L2 (0) (0) Q (F0 m 2 ls []) := by
    intro k2
    induction k2 with
    | zero => intro u9 q2 g2 ah2 ls H2 L2 hk; exact absurd hk (Nat.not_lt_zero _)
    | succ k2 ih2 =>
      intro u9 q2 g2 ah2 ls H2 L2 hk2 hJ2 hpl2 hs2 hp2 hl hw
      have hX := moX_k hJ2 hX0
      have hRg := moR_k hJ2 hRg0
      have hS := moS_k hJ2 hS0
      have hFt : u9 < ns → FG u9 + RC u9 ≤ nr := fun h9 => (hS.2 u9 h9).2.2.2.2.2.2.2.2
      have hrl := rcP_le WH RC w9 u9
      refine lv_iload_n hx hb dX10_apart_2 rfl (lv_at hl 0 rfl) ?_
      refine lv_aload_n hx hb dX10_apart_3 rfl (lv_at hl 2 rfl) ?_
      refine h_get (ci := 10) (v := .int (q2 1)) (C := RX10) (T := TX10) (N := 26) hx hb hts kl_X10 hown hK hw hJ2.1.1 rfl 1 (by decide) (hts _ kf_X10_59) rfl rfl dX10_apart_4 ?_
      rw [show q2 1 = nI ns from ((hJ2.2.1 1 (by decide)).trans hns)]
      refine lv_icmp_ge (tgt := 127) hx hb dX10_apart_7 (by decide) (fun c_1 => ?_) (fun c_1 => ?_)
      · skip
        have c_1 : ns ≤ u9 := (nI_lex (by rfl) (by rfl) (by omega) (by omega)).mp c_1
        refine lv_iconst (v := 0) hx hb dX10_apart_127 (by decide) ?_
        rw [hQ]
        exact h_iret hx hb hr hlk hsz hw (by simp) (by simp) dX10_apart_128 ⟨_, q2, g2, rfl, hJ2, (by rw [show apO X Y RP RN ns FG RC WH PA pl w9 = none from firstO_none (fun j hj => hp2 j (by omega))]; exact ⟨rfl, hpl2⟩)⟩
      · skip
        have c_1 : ¬ (ns ≤ u9) := (not_congr (nI_lex (by rfl) (by rfl) (by omega) (by omega))).mp c_1
        refine lv_aload_n hx hb dX10_apart_10 rfl (lv_at hl 2 rfl) ?_
        refine lv_iload_n hx hb dX10_apart_11 rfl (lv_at hl 0 rfl) ?_
        refine lv_iload_n hx hb dX10_apart_12 rfl (lv_at hl 1 rfl) ?_
        refine h_callV (n := 2) (ci := 10) (b := mo) (As := [.int (nI u9), .int (nI w9)]) (rest := []) ⟨hx, hb, hml, hown, hts⟩ hK hw (c_X10_isPart l D dT ah2 H2.size mo AR q2 g2 hJ2.1 np X Y hX nr RP RN hRg ns FG RC PF PC KD WH PA hS u9 w9 (by omega)) ko_X10_isPart km_X10_214 ki_X10_isPart ks_X10_isPart kn_X10 (by decide +kernel) rfl hJ2.1.1 rfl hl.1 rfl (by simp [Value.category]) dX10_apart_13 (by rw [hR]; exact ⟨rfl, rfl, Nat.le_of_ble_eq_true rfl, Nat.le_of_ble_eq_true rfl, by simp, by simp⟩) (fun r_2 ah_3 H_4 L_5 st_6 hp hw hst => ?_)
        obtain ⟨rfl, rfl⟩ := hp
        have hst : st_6 = [.int (bI (mPart WH RC u9 w9))] := hst
        subst hst
        have J_10 : ∀ (v_9 : Int32) (ls : Array Slot), lv_has ls 7 [(2, .int (nI u9)), (1, .int (nI w9)), (0, .ref mo)] → v_9 = (if mPart WH RC u9 w9 = false then nI (FG u9) else nI (FG u9 + RC u9)) → W p l e R s m args below meth c H_4 L_5 (0) (0) Q (F0 m 41 ls [.int v_9]) := by
          intro v_9 ls hl ev_9
          have hv9 : v_9 = nI (FG u9 + rcP WH RC w9 u9) := ev_9.trans rcP_e
          subst hv9
          refine lv_istore_n (lv' := [(3, .int (nI (FG u9 + rcP WH RC w9 u9))), (2, .int (nI u9)), (1, .int (nI w9)), (0, .ref mo)]) hx hb dX10_apart_41 rfl hl (by decide) rfl (fun ls hl => ?_)
          refine lv_aload_n hx hb dX10_apart_42 rfl (lv_at hl 3 rfl) ?_
          refine h_get (ci := 10) (v := .ref (AR 5)) (C := RX10) (T := TX10) (N := 26) hx hb hts kl_X10 hown hK hw hJ2.1.1 rfl 10 (by decide) (hts _ kf_X10_25) rfl rfl dX10_apart_43 ?_
          refine lv_iload_n hx hb dX10_apart_46 rfl (lv_at hl 1 rfl) ?_
          refine h_iald hx hb hK hw (moA_a (n := 2048) (f := g2 5) hJ2.1 5 (by decide) rfl rfl) u9 rfl (by omega) (by omega) dX10_apart_47 ?_
          rw [show (g2 5) u9 = nI (FG u9) from (hS.2 _ (by omega)).2.2.2.2.2.1]
          refine lv_istore (lv' := [(4, .int (nI (FG u9))), (3, .int (nI (FG u9 + rcP WH RC w9 u9))), (2, .int (nI u9)), (1, .int (nI w9)), (0, .ref mo)]) hx hb dX10_apart_48 hl (by decide) rfl (fun ls hl => ?_)
          have LP50 : ∀ (k50 : Nat) (i : Nat) (q50 : Nat → Int32) (g50 : Nat → Nat → Int32) (ah50 : hA) (ls : Array Slot) (H50 : Heap) (L50 : List Loc), (rcP WH RC w9 u9 - i < k50) → (moK dT ah ah50 mo AR q g q50 g50) → (g50 12 = pl) → (i ≤ rcP WH RC w9 u9) → (∀ x, x < i → apI X Y RP RN ns FG RC WH PA pl w9 u9 x = none) → lv_has ls 7 [(4, .int (nI (FG u9 + i))), (3, .int (nI (FG u9 + rcP WH RC w9 u9))), (2, .int (nI u9)), (1, .int (nI w9)), (0, .ref mo)] → hW D ah s.heap ah50 H50 L50 → W p l e R s m args below meth c H50 L50 (0) (0) Q (F0 m 50 ls []) := by
            intro k50
            induction k50 with
            | zero => intro i q50 g50 ah50 ls H50 L50 hk; exact absurd hk (Nat.not_lt_zero _)
            | succ k50 ih50 =>
              intro i q50 g50 ah50 ls H50 L50 hk50 hJ50 hpl50 hi50 hp50 hl hw
              have hX := moX_k hJ50 hX0
              have hRg := moR_k hJ50 hRg0
              have hS := moS_k hJ50 hS0
              have hFt := hFt (by omega)
              have hrs : i < rcP WH RC w9 u9 → RP (FG u9 + i) + RN (FG u9 + i) ≤ np := fun h9 => (hRg.2 _ (by omega)).2.2
              refine lv_iload hx hb dX10_apart_50 (lv_at hl 0 rfl) ?_
              refine lv_iload_n hx hb dX10_apart_52 rfl (lv_at hl 1 rfl) ?_
              refine lv_icmp_ge (tgt := 121) hx hb dX10_apart_53 (by decide) (fun c_11 => ?_) (fun c_11 => ?_)
              · skip
                have c_11 : FG u9 + rcP WH RC w9 u9 ≤ FG u9 + i := (nI_lex (by rfl) (by rfl) (by omega) (by omega)).mp c_11
                refine lv_iinc (v := nI (u9 + 1)) (lv' := [(2, .int (nI (u9 + 1))), (4, .int (nI (FG u9 + i))), (3, .int (nI (FG u9 + rcP WH RC w9 u9))), (1, .int (nI w9)), (0, .ref mo)]) hx hb dX10_apart_121 hl (k := 2) rfl (nI_c _ 1) (by decide) rfl (fun ls hl => ?_)
                refine lv_goto (tgt := 2) hx hb dX10_apart_124 (by decide) ?_
                exact ih2 (u9 + 1) q50 g50 ah50 ls _ _ (by omega) hJ50 hpl50 (by omega) (lt_o hp2 (firstO_none (fun j hj => hp50 j (by omega)))) (lv_sub hl [0, 3, 4] rfl) hw
              · skip
                have c_11 : ¬ (FG u9 + rcP WH RC w9 u9 ≤ FG u9 + i) := (not_congr (nI_lex (by rfl) (by rfl) (by omega) (by omega))).mp c_11
                refine lv_aload_n hx hb dX10_apart_56 rfl (lv_at hl 4 rfl) ?_
                refine h_get (ci := 10) (v := .ref (AR 7)) (C := RX10) (T := TX10) (N := 26) hx hb hts kl_X10 hown hK hw hJ50.1.1 rfl 12 (by decide) (hts _ kf_X10_31) rfl rfl dX10_apart_57 ?_
                refine lv_iload hx hb dX10_apart_60 (lv_at hl 0 rfl) ?_
                refine h_iald hx hb hK hw (moA_a (n := 4096) (f := g50 7) hJ50.1 7 (by decide) rfl rfl) (FG u9 + i) rfl (by omega) (by omega) dX10_apart_62 ?_
                rw [show (g50 7) (FG u9 + i) = nI (RP (FG u9 + i)) from (hRg.2 _ (by omega)).1]
                refine lv_istore (lv' := [(5, .int (nI (RP (FG u9 + i)))), (4, .int (nI (FG u9 + i))), (3, .int (nI (FG u9 + rcP WH RC w9 u9))), (2, .int (nI u9)), (1, .int (nI w9)), (0, .ref mo)]) hx hb dX10_apart_63 hl (by decide) rfl (fun ls hl => ?_)
                have LP65 : ∀ (k65 : Nat) (ka : Nat) (q65 : Nat → Int32) (g65 : Nat → Nat → Int32) (ah65 : hA) (ls : Array Slot) (H65 : Heap) (L65 : List Loc), (RN (FG u9 + i) - ka < k65) → (moK dT ah ah65 mo AR q g q65 g65) → (g65 12 = pl) → (ka ≤ RN (FG u9 + i) - 1) → (∀ x, x < ka → apA X Y RP RN ns FG RC WH PA pl w9 u9 i x = none) → lv_has ls 7 [(5, .int (nI (RP (FG u9 + i) + ka))), (4, .int (nI (FG u9 + i))), (3, .int (nI (FG u9 + rcP WH RC w9 u9))), (2, .int (nI u9)), (1, .int (nI w9)), (0, .ref mo)] → hW D ah s.heap ah65 H65 L65 → W p l e R s m args below meth c H65 L65 (0) (0) Q (F0 m 65 ls []) := by
                  intro k65
                  induction k65 with
                  | zero => intro ka q65 g65 ah65 ls H65 L65 hk; exact absurd hk (Nat.not_lt_zero _)
                  | succ k65 ih65 =>
                    intro ka q65 g65 ah65 ls H65 L65 hk65 hJ65 hpl65 hk65 hp65 hl hw
                    have hX := moX_k hJ65 hX0
                    have hRg := moR_k hJ65 hRg0
                    have hS := moS_k hJ65 hS0
                    have hrs := hrs (by omega)
                    refine lv_iload hx hb dX10_apart_65 (lv_at hl 0 rfl) ?_
                    refine lv_aload_n hx hb dX10_apart_67 rfl (lv_at hl 5 rfl) ?_
                    refine lv_iload hx hb dX10_apart_68 (lv_at hl 1 rfl) ?_
                    refine h_callV (n := 1) (ci := 10) (b := mo) (As := [.int (nI (FG u9 + i))]) (rest := [.int (nI (RP (FG u9 + i) + ka))]) ⟨hx, hb, hml, hown, hts⟩ hK hw (c_X10_end l D dT ah65 H65.size mo AR q65 g65 hJ65.1 np X Y hX nr RP RN hRg (FG u9 + i) (by omega)) ko_X10_end km_X10_129 ki_X10_end ks_X10_end kn_X10 (by decide +kernel) rfl hJ65.1.1 rfl hl.1 rfl (by simp [Value.category]) dX10_apart_70 (by rw [hR]; exact ⟨rfl, rfl, Nat.le_of_ble_eq_true rfl, Nat.le_of_ble_eq_true rfl, by simp, by simp⟩) (fun r_13 ah_14 H_15 L_16 st_17 hp hw hst => ?_)
                    obtain ⟨rfl, rfl⟩ := hp
                    have hst : st_17 = [.int (nI (RP (FG u9 + i) + RN (FG u9 + i)) - 1), .int (nI (RP (FG u9 + i) + ka))] := hst
                    subst hst
                    refine lv_icmp_ge (tgt := 115) hx hb dX10_apart_73 (by decide) (fun c_18 => ?_) (fun c_18 => ?_)
                    · skip
                      have c_18 : RP (FG u9 + i) + RN (FG u9 + i) ≤ RP (FG u9 + i) + ka + 1 := (nIm_le (by omega) (by omega)).mp c_18
                      refine lv_iinc (v := nI (FG u9 + i + 1)) (lv' := [(4, .int (nI (FG u9 + i + 1))), (5, .int (nI (RP (FG u9 + i) + ka))), (3, .int (nI (FG u9 + rcP WH RC w9 u9))), (2, .int (nI u9)), (1, .int (nI w9)), (0, .ref mo)]) hx hb dX10_apart_115 hl (k := 1) rfl (nI_c _ 1) (by decide) rfl (fun ls hl => ?_)
                      refine lv_goto (tgt := 50) hx hb dX10_apart_118 (by decide) ?_
                      exact ih50 (i + 1) q65 g65 ah65 ls _ _ (by omega) hJ65 hpl65 (by omega) (lt_o hp50 (firstO_none (fun x hx => hp65 x (by omega)))) (lv_sub hl [0, 2, 3, 4, 5] rfl) hw
                    · skip
                      have c_18 : ¬ (RP (FG u9 + i) + RN (FG u9 + i) ≤ RP (FG u9 + i) + ka + 1) := (not_congr (nIm_le (by omega) (by omega))).mp c_18
                      refine lv_aload_n hx hb dX10_apart_76 rfl (lv_at hl 5 rfl) ?_
                      refine lv_iload hx hb dX10_apart_77 (lv_at hl 0 rfl) ?_
                      refine h_callV (n := 1) (ci := 10) (b := mo) (As := [.int (nI (RP (FG u9 + i) + ka))]) (rest := []) ⟨hx, hb, hml, hown, hts⟩ hK hw (c_X10_isSegment l D dT ah65 H_15.size mo AR q65 g65 hJ65.1 np X Y hX (RP (FG u9 + i) + ka) (by omega)) ko_X10_isSegment km_X10_132 ki_X10_isSegment ks_X10_isSegment kn_X10 (by decide +kernel) rfl hJ65.1.1 rfl hl.1 rfl (by simp [Value.category]) dX10_apart_79 (by rw [hR]; exact ⟨rfl, rfl, Nat.le_of_ble_eq_true rfl, Nat.le_of_ble_eq_true rfl, by simp, by simp⟩) (fun r_20 ah_21 H_22 L_23 st_24 hp hw hst => ?_)
                      obtain ⟨rfl, rfl⟩ := hp
                      have hst : st_24 = [.int (bI (mSeg X Y (RP (FG u9 + i) + ka)))] := hst
                      subst hst
                      refine lv_if_eq (tgt := 98) hx hb dX10_apart_82 (by decide) (fun c_25 => ?_) (fun c_25 => ?_)
                      · skip
                        have c_25 : mSeg X Y (RP (FG u9 + i) + ka) = false := bI_0.mp c_25
                        refine lv_iconst (v := 0) hx hb dX10_apart_98 (by decide) ?_
                        refine lv_istore (lv' := [(6, .int 0), (5, .int (nI (RP (FG u9 + i) + ka))), (4, .int (nI (FG u9 + i))), (3, .int (nI (FG u9 + rcP WH RC w9 u9))), (2, .int (nI u9)), (1, .int (nI w9)), (0, .ref mo)]) hx hb dX10_apart_99 hl (by decide) rfl (fun ls hl => ?_)
                        refine lv_iload hx hb dX10_apart_101 (lv_at hl 0 rfl) ?_
                        refine lv_if_le (tgt := 109) hx hb dX10_apart_103 (by decide) (fun c_26 => ?_) (fun c_26 => ?_)
                        · skip
                          refine lv_iinc (v := nI (RP (FG u9 + i) + ka + 1)) (lv' := [(5, .int (nI (RP (FG u9 + i) + ka + 1))), (6, .int 0), (4, .int (nI (FG u9 + i))), (3, .int (nI (FG u9 + rcP WH RC w9 u9))), (2, .int (nI u9)), (1, .int (nI w9)), (0, .ref mo)]) hx hb dX10_apart_109 hl (k := 1) rfl (nI_c _ 1) (by decide) rfl (fun ls hl => ?_)
                          refine lv_goto (tgt := 65) hx hb dX10_apart_112 (by decide) ?_
                          exact ih65 (ka + 1) q65 g65 ah65 ls _ _ (by omega) hJ65 hpl65 (by omega) (lt_o hp65 (if_pos c_25)) (lv_sub hl [0, 2, 3, 4, 5, 6] rfl) hw
                        · exact absurd c_26 (by decide)
                      · skip
                        have c_25 : ¬ (mSeg X Y (RP (FG u9 + i) + ka) = false) := (not_congr bI_0).mp c_25
                        refine lv_aload_n hx hb dX10_apart_85 rfl (lv_at hl 5 rfl) ?_
                        refine lv_iload_n hx hb dX10_apart_86 rfl (lv_at hl 4 rfl) ?_
                        refine lv_iload_n hx hb dX10_apart_87 rfl (lv_at hl 3 rfl) ?_
                        refine lv_iload hx hb dX10_apart_88 (lv_at hl 1 rfl) ?_
                        refine lv_iload hx hb dX10_apart_90 (lv_at hl 0 rfl) ?_
                        refine h_callV (n := 4) (ci := 10) (b := mo) (As := [.int (nI w9), .int (nI u9), .int (nI (FG u9 + i)), .int (nI (RP (FG u9 + i) + ka))]) (rest := []) ⟨hx, hb, hml, hown, hts⟩ hK hw (c_X10_against l D dT ah65 H_22.size mo AR q65 g65 hJ65.1 np X Y hX nr RP RN hRg ns FG RC PF PC KD WH PA hS pl hpl65 ((hJ65.2.1 1 (by decide)).trans hns) w9 u9 i ka (by omega) (by omega) (by omega)) ko_X10_against km_X10_217 ki_X10_against ks_X10_against kn_X10 (by decide +kernel) rfl hJ65.1.1 rfl hl.1 rfl (by simp [Value.category]) dX10_apart_92 (by rw [hR]; exact ⟨rfl, rfl, Nat.le_of_ble_eq_true rfl, Nat.le_of_ble_eq_true rfl, by simp, by simp⟩) (fun r_28 ah_29 H_30 L_31 st_32 hp hw hst => ?_)
                        obtain ⟨v_33, q_34, g_35, rfl, hJv_33, hRv_33⟩ := hp
                        have hJ_36 : moK dT ah ah_29 mo AR q g q_34 g_35 := moK_t hJ65 hJv_33
                        have hX := moX_k hJv_33 hX
                        have hRg := moR_k hJv_33 hRg
                        have hS := moS_k hJv_33 hS
                        have hst : st_32 = [.int v_33] := hst
                        subst hst
                        refine lv_goto (tgt := 99) hx hb dX10_apart_95 (by decide) ?_
                        refine lv_istore (lv' := [(6, .int v_33), (5, .int (nI (RP (FG u9 + i) + ka))), (4, .int (nI (FG u9 + i))), (3, .int (nI (FG u9 + rcP WH RC w9 u9))), (2, .int (nI u9)), (1, .int (nI w9)), (0, .ref mo)]) hx hb dX10_apart_99 hl (by decide) rfl (fun ls hl => ?_)
                        refine lv_iload hx hb dX10_apart_101 (lv_at hl 0 rfl) ?_
                        refine lv_if_le (tgt := 109) hx hb dX10_apart_103 (by decide) (fun c_37 => ?_) (fun c_37 => ?_)
                        · skip
                          have hz_ap := moRs_z hRv_33 c_37
                          refine lv_iinc (v := nI (RP (FG u9 + i) + ka + 1)) (lv' := [(5, .int (nI (RP (FG u9 + i) + ka + 1))), (6, .int v_33), (4, .int (nI (FG u9 + i))), (3, .int (nI (FG u9 + rcP WH RC w9 u9))), (2, .int (nI u9)), (1, .int (nI w9)), (0, .ref mo)]) hx hb dX10_apart_109 hl (k := 1) rfl (nI_c _ 1) (by decide) rfl (fun ls hl => ?_)
                          refine lv_goto (tgt := 65) hx hb dX10_apart_112 (by decide) ?_
                          exact ih65 (ka + 1) q_34 g_35 ah_29 ls _ _ (by omega) hJ_36 hz_ap.2 (by omega) (lt_o hp65 ((if_neg c_25).trans hz_ap.1)) (lv_sub hl [0, 2, 3, 4, 5, 6] rfl) hw
                        · skip
                          refine lv_iload hx hb dX10_apart_106 (lv_at hl 0 rfl) ?_
                          rw [hQ]
                          exact h_iret hx hb hr hlk hsz hw (by simp) (by simp) dX10_apart_108 ⟨_, q_34, g_35, rfl, hJ_36, (by obtain ⟨hq1, hq2⟩ := moRs_p hRv_33 c_37; rw [show apO X Y RP RN ns FG RC WH PA pl w9 = some (v_33, g_35 12) from firstO_some (i := u9) (by omega) (firstO_some (i := i) (by omega) (firstO_some (i := ka) (by omega) ((if_neg c_25).trans hq1) hp65) hp50) hp2]; exact ⟨rfl, hq2, rfl⟩)⟩
                exact LP65 ((RN (FG u9 + i) - 0) + 1) 0 q50 g50 ah50 ls _ _ (Nat.lt_succ_self _) hJ50 hpl50 (by omega) (fun j hj => absurd hj (Nat.not_lt_zero _)) (lv_sub hl [0, 1, 2, 3, 4, 5] rfl) hw
          exact LP50 ((rcP WH RC w9 u9 - 0) + 1) 0 q2 g2 ah2 ls _ _ (Nat.lt_succ_self _) hJ2 hpl2 (by omega) (fun j hj => absurd hj (Nat.not_lt_zero _)) (lv_sub hl [0, 1, 2, 3, 4] rfl) hw
        refine lv_if_eq (tgt := 35) hx hb dX10_apart_16 (by decide) (fun c_7 => ?_) (fun c_7 => ?_)
        · skip
          have c_7 : mPart WH RC u9 w9 = false := bI_0.mp c_7
          refine lv_aload_n hx hb dX10_apart_35 rfl (lv_at hl 2 rfl) ?_
          refine h_get (ci := 10) (v := .ref (AR 5)) (C := RX10) (T := TX10) (N := 26) hx hb hts kl_X10 hown hK hw hJ2.1.1 rfl 10 (by decide) (hts _ kf_X10_25) rfl rfl dX10_apart_36 ?_
          refine lv_iload_n hx hb dX10_apart_39 rfl (lv_at hl 0 rfl) ?_
          refine h_iald hx hb hK hw (moA_a (n := 2048) (f := g2 5) hJ2.1 5 (by decide) rfl rfl) u9 rfl (by omega) (by omega) dX10_apart_40 ?_
          rw [show (g2 5) u9 = nI (FG u9) from (hS.2 _ (by omega)).2.2.2.2.2.1]
          exact J_10 (nI (FG u9)) ls (lv_sub hl [0, 1, 2] rfl) (by rw [if_pos c_7])
        · skip
          have c_7 : ¬ (mPart WH RC u9 w9 = false) := (not_congr bI_0).mp c_7
          refine lv_aload_n hx hb dX10_apart_19 rfl (lv_at hl 2 rfl) ?_
          refine h_get (ci := 10) (v := .ref (AR 5)) (C := RX10) (T := TX10) (N := 26) hx hb hts kl_X10 hown hK hw hJ2.1.1 rfl 10 (by decide) (hts _ kf_X10_25) rfl rfl dX10_apart_20 ?_
          refine lv_iload_n hx hb dX10_apart_23 rfl (lv_at hl 0 rfl) ?_
          refine h_iald hx hb hK hw (moA_a (n := 2048) (f := g2 5) hJ2.1 5 (by decide) rfl rfl) u9 rfl (by omega) (by omega) dX10_apart_24 ?_
          rw [show (g2 5) u9 = nI (FG u9) from (hS.2 _ (by omega)).2.2.2.2.2.1]
          refine lv_aload_n hx hb dX10_apart_25 rfl (lv_at hl 2 rfl) ?_
          refine h_get (ci := 10) (v := .ref (AR 6)) (C := RX10) (T := TX10) (N := 26) hx hb hts kl_X10 hown hK hw hJ2.1.1 rfl 11 (by decide) (hts _ kf_X10_28) rfl rfl dX10_apart_26 ?_
          refine lv_iload_n hx hb dX10_apart_29 rfl (lv_at hl 0 rfl) ?_
          refine h_iald hx hb hK hw (moA_a (n := 2048) (f := g2 6) hJ2.1 6 (by decide) rfl rfl) u9 rfl (by omega) (by omega) dX10_apart_30 ?_
          rw [show (g2 6) u9 = nI (RC u9) from (hS.2 _ (by omega)).2.2.2.2.2.2.1]
          refine lv_iadd hx hb dX10_apart_31 ?_
          refine lv_topi (fun t_8 et_8 => ?_)
          obtain rfl : t_8 = nI (FG u9 + RC u9) := et_8.trans (nI_add _ _)
          refine lv_goto (tgt := 41) hx hb dX10_apart_32 (by decide) ?_
          exact J_10 (nI (FG u9 + RC u9)) ls (lv_sub hl [0, 1, 2] rfl) (by rw [if_neg c_7])
  exact LP2 ((ns - 0) + 1) 0 q g ah ls _ _ (Nat.lt_succ_self _) hJ0 hpl (by omega) (fun j hj => absurd hj (Nat.not_lt_zero _)) (lv_sub hl [0, 2, 1] rfl) hw

set_option maxHeartbeats 4000000 in
set_option maxRecDepth 100000 in
theorem c_X10_polygons (l : Launch) (D : va_G) (dT : Nat → ClassId) (ah : hA) (sz : Nat) (mo : Nat) (AR : Nat → Nat) (q : Nat → Int32) (g : Nat → Nat → Int32) (hm : moA dT ah mo AR q g) (np : Nat) (X Y : Nat → Int32) (hX : moX np g X Y) (nr : Nat) (RP RN : Nat → Nat) (hRg : moR np nr g RP RN) (ns : Nat) (FG RC PF PC : Nat → Nat) (KD WH PA : Nat → Int32) (hS : moS ns np nr g FG RC PF PC KD WH PA) (pl : Nat → Int32) (hpl : g 12 = pl) (hns : q 1 = nI ns) (w9 : Nat) (hw9 : w9 < ns) : hMet l yX10_polygons cX10_polygons 5 (some .int) ({ frames := 8, cells := 0, slots := 0, locals := 200 }) D dT [.ref mo, .int (nI w9)] ah sz (fun r ah2 => moO dT ah ah2 mo AR q g pl (plO X Y RP RN ns FG RC WH PA pl w9) r) 0 0 := by
  refine h_met (by decide) (Nat.le_of_ble_eq_true rfl) ?_
  intro p e s m below meth c ls R Q args hav hR hQ hB hl hsz hw
  obtain ⟨hx, hb, hml, hr, hts, hown, hlk, hin, hK⟩ := hB
  have hown : s.vm.findClass RX10 = some m.cls := hown
  have hl : lv_has ls 5 [(0, .ref mo), (1, .int (nI w9))] := hl
  have hnp := hX.1
  have hnr := hRg.1
  have hns9 := hS.1
  have hJ0 : moK dT ah ah mo AR q g q g := moK_r hm
  have hX0 := hX
  have hRg0 := hRg
  have hS0 := hS
  refine lv_iload_n hx hb dX10_polygons_0 rfl (lv_at hl 1 rfl) ?_
  refine lv_iconst (v := 1) hx hb dX10_polygons_1 (by decide) ?_
  refine lv_iadd hx hb dX10_polygons_2 ?_
  refine lv_topi (fun t_1 et_1 => ?_)
  obtain rfl : t_1 = nI (w9 + 1) := et_1.trans (nI_c _ 1)
  refine lv_istore_n (lv' := [(2, .int (nI (w9 + 1))), (0, .ref mo), (1, .int (nI w9))]) hx hb dX10_polygons_3 rfl hl (by decide) rfl (fun ls hl => ?_)
  have LP4 : ∀ (k4 : Nat) (u9 : Nat) (q4 : Nat → Int32) (g4 : Nat → Nat → Int32) (ah4 : hA) (ls : Array Slot) (H4 : Heap) (L4 : List Loc), (ns - u9 < k4) → (moK dT ah ah4 mo AR q g q4 g4) → (g4 12 = pl) → (w9 + 1 ≤ u9) → (u9 ≤ ns) → (∀ j, j < u9 → plQ X Y RP RN ns FG RC WH PA pl w9 j = none) → lv_has ls 5 [(2, .int (nI u9)), (1, .int (nI w9)), (0, .ref mo)] → hW D ah s.heap ah4 H4 L4 → W p l e R s m args below meth c H4 L4 (0) (0) Q (F0 m 4 ls []) := by
    intro k4
    induction k4 with
    | zero => intro u9 q4 g4 ah4 ls H4 L4 hk; exact absurd hk (Nat.not_lt_zero _)
    | succ k4 ih4 =>
      intro u9 q4 g4 ah4 ls H4 L4 hk4 hJ4 hpl4 hs4 hs5 hp4 hl hw
      have hX := moX_k hJ4 hX0
      have hRg := moR_k hJ4 hRg0
      have hS := moS_k hJ4 hS0
      refine lv_iload_n hx hb dX10_polygons_4 rfl (lv_at hl 0 rfl) ?_
      refine lv_aload_n hx hb dX10_polygons_5 rfl (lv_at hl 2 rfl) ?_
      refine h_get (ci := 10) (v := .int (q4 1)) (C := RX10) (T := TX10) (N := 26) hx hb hts kl_X10 hown hK hw hJ4.1.1 rfl 1 (by decide) (hts _ kf_X10_59) rfl rfl dX10_polygons_6 ?_
      rw [show q4 1 = nI ns from ((hJ4.2.1 1 (by decide)).trans hns)]
      refine lv_icmp_ge (tgt := 50) hx hb dX10_polygons_9 (by decide) (fun c_2 => ?_) (fun c_2 => ?_)
      · skip
        have c_2 : ns ≤ u9 := (nI_lex (by rfl) (by rfl) (by omega) (by omega)).mp c_2
        refine lv_aload_n hx hb dX10_polygons_50 rfl (lv_at hl 2 rfl) ?_
        refine lv_iload_n hx hb dX10_polygons_51 rfl (lv_at hl 1 rfl) ?_
        refine h_callV (n := 1) (ci := 10) (b := mo) (As := [.int (nI w9)]) (rest := []) ⟨hx, hb, hml, hown, hts⟩ hK hw (c_X10_apart l D dT ah4 H4.size mo AR q4 g4 hJ4.1 np X Y hX nr RP RN hRg ns FG RC PF PC KD WH PA hS pl hpl4 ((hJ4.2.1 1 (by decide)).trans hns) w9 (by omega)) ko_X10_apart km_X10_223 ki_X10_apart ks_X10_apart kn_X10 (by decide +kernel) rfl hJ4.1.1 rfl hl.1 rfl (by simp [Value.category]) dX10_polygons_52 (by rw [hR]; exact ⟨rfl, rfl, Nat.le_of_ble_eq_true rfl, Nat.le_of_ble_eq_true rfl, by simp, by simp⟩) (fun r_3 ah_4 H_5 L_6 st_7 hp hw hst => ?_)
        obtain ⟨v_8, q_9, g_10, rfl, hJv_8, hRv_8⟩ := hp
        have hJ_11 : moK dT ah ah_4 mo AR q g q_9 g_10 := moK_t hJ4 hJv_8
        have hX := moX_k hJv_8 hX
        have hRg := moR_k hJv_8 hRg
        have hS := moS_k hJv_8 hS
        have hst : st_7 = [.int v_8] := hst
        subst hst
        refine lv_istore_n (lv' := [(2, .int v_8), (1, .int (nI w9)), (0, .ref mo)]) hx hb dX10_polygons_55 rfl hl (by decide) rfl (fun ls hl => ?_)
        refine lv_iload_n hx hb dX10_polygons_56 rfl (lv_at hl 0 rfl) ?_
        refine lv_if_le (tgt := 62) hx hb dX10_polygons_57 (by decide) (fun c_12 => ?_) (fun c_12 => ?_)
        · skip
          have hz_ap := moRs_z hRv_8 c_12
          have hpo : ∀ j, j < ns → plQ X Y RP RN ns FG RC WH PA pl w9 j = none := fun j hj => hp4 j (by omega)
          refine lv_iload_n hx hb dX10_polygons_62 rfl (lv_at hl 1 rfl) ?_
          refine lv_iconst (v := 1) hx hb dX10_polygons_63 (by decide) ?_
          refine lv_iadd hx hb dX10_polygons_64 ?_
          refine lv_topi (fun t_13 et_13 => ?_)
          obtain rfl : t_13 = nI (w9 + 1) := et_13.trans (nI_c _ 1)
          refine lv_istore_n (lv' := [(3, .int (nI (w9 + 1))), (2, .int v_8), (1, .int (nI w9)), (0, .ref mo)]) hx hb dX10_polygons_65 rfl hl (by decide) rfl (fun ls hl => ?_)
          have LP66 : ∀ (k66 : Nat) (s2 : Nat) (ls : Array Slot) (H66 : Heap) (L66 : List Loc), (ns - s2 < k66) → (w9 + 1 ≤ s2) → (s2 ≤ ns) → (∀ j, j < s2 → plS X Y RP RN ns FG RC WH PA pl w9 j = none) → lv_has ls 5 [(3, .int (nI s2)), (1, .int (nI w9)), (0, .ref mo)] → hW D ah s.heap ah_4 H66 L66 → W p l e R s m args below meth c H66 L66 (0 + 0) (0 + 0) Q (F0 m 66 ls []) := by
            intro k66
            induction k66 with
            | zero => intro s2 ls H66 L66 hk; exact absurd hk (Nat.not_lt_zero _)
            | succ k66 ih66 =>
              intro s2 ls H66 L66 hk66 hs66 hs67 hp66 hl hw
              refine lv_iload_n hx hb dX10_polygons_66 rfl (lv_at hl 0 rfl) ?_
              refine lv_aload_n hx hb dX10_polygons_67 rfl (lv_at hl 2 rfl) ?_
              refine h_get (ci := 10) (v := .int (q_9 1)) (C := RX10) (T := TX10) (N := 26) hx hb hts kl_X10 hown hK hw hJ_11.1.1 rfl 1 (by decide) (hts _ kf_X10_59) rfl rfl dX10_polygons_68 ?_
              rw [show q_9 1 = nI ns from ((hJ_11.2.1 1 (by decide)).trans hns)]
              refine lv_icmp_ge (tgt := 168) hx hb dX10_polygons_71 (by decide) (fun c_14 => ?_) (fun c_14 => ?_)
              · skip
                have c_14 : ns ≤ s2 := (nI_lex (by rfl) (by rfl) (by omega) (by omega)).mp c_14
                refine lv_iconst (v := 0) hx hb dX10_polygons_168 (by decide) ?_
                rw [hQ]
                exact h_iret hx hb hr hlk hsz hw (by simp) (by simp) dX10_polygons_169 ⟨_, q_9, g_10, rfl, hJ_11, (by rw [show plO X Y RP RN ns FG RC WH PA pl w9 = none from oe_nn (firstO_none hpo) (oe_nn hz_ap.1 (firstO_none (fun j hj => hp66 j (by omega))))]; exact ⟨rfl, hz_ap.2⟩)⟩
              · skip
                have c_14 : ¬ (ns ≤ s2) := (not_congr (nI_lex (by rfl) (by rfl) (by omega) (by omega))).mp c_14
                refine lv_iload_n hx hb dX10_polygons_74 rfl (lv_at hl 0 rfl) ?_
                refine lv_iconst (v := 1) hx hb dX10_polygons_75 (by decide) ?_
                refine lv_iadd hx hb dX10_polygons_76 ?_
                refine lv_topi (fun t_15 et_15 => ?_)
                obtain rfl : t_15 = nI (s2 + 1) := et_15.trans (nI_c _ 1)
                refine lv_istore (lv' := [(4, .int (nI (s2 + 1))), (3, .int (nI s2)), (1, .int (nI w9)), (0, .ref mo)]) hx hb dX10_polygons_77 hl (by decide) rfl (fun ls hl => ?_)
                have LP79 : ∀ (k79 : Nat) (t2 : Nat) (ls : Array Slot) (H79 : Heap) (L79 : List Loc), (ns - t2 < k79) → (s2 + 1 ≤ t2) → (t2 ≤ ns) → (∀ j, j < t2 → plT X Y RP RN ns FG RC WH PA pl w9 s2 j = none) → lv_has ls 5 [(4, .int (nI t2)), (3, .int (nI s2)), (1, .int (nI w9)), (0, .ref mo)] → hW D ah s.heap ah_4 H79 L79 → W p l e R s m args below meth c H79 L79 (0 + 0) (0 + 0) Q (F0 m 79 ls []) := by
                  intro k79
                  induction k79 with
                  | zero => intro t2 ls H79 L79 hk; exact absurd hk (Nat.not_lt_zero _)
                  | succ k79 ih79 =>
                    intro t2 ls H79 L79 hk79 ht79 ht80 hp79 hl hw
                    refine lv_iload hx hb dX10_polygons_79 (lv_at hl 0 rfl) ?_
                    refine lv_aload_n hx hb dX10_polygons_81 rfl (lv_at hl 3 rfl) ?_
                    refine h_get (ci := 10) (v := .int (q_9 1)) (C := RX10) (T := TX10) (N := 26) hx hb hts kl_X10 hown hK hw hJ_11.1.1 rfl 1 (by decide) (hts _ kf_X10_59) rfl rfl dX10_polygons_82 ?_
                    rw [show q_9 1 = nI ns from ((hJ_11.2.1 1 (by decide)).trans hns)]
                    refine lv_icmp_ge (tgt := 162) hx hb dX10_polygons_85 (by decide) (fun c_16 => ?_) (fun c_16 => ?_)
                    · skip
                      have c_16 : ns ≤ t2 := (nI_lex (by rfl) (by rfl) (by omega) (by omega)).mp c_16
                      refine lv_iinc (v := nI (s2 + 1)) (lv' := [(3, .int (nI (s2 + 1))), (4, .int (nI t2)), (1, .int (nI w9)), (0, .ref mo)]) hx hb dX10_polygons_162 hl (k := 1) rfl (nI_c _ 1) (by decide) rfl (fun ls hl => ?_)
                      refine lv_goto (tgt := 66) hx hb dX10_polygons_165 (by decide) ?_
                      exact ih66 (s2 + 1) ls _ _ (by omega) (by omega) (by omega) (lt_o hp66 (plS_n (fun j hj => hp79 j (by omega)))) (lv_sub hl [0, 2, 3] rfl) hw
                    · skip
                      have c_16 : ¬ (ns ≤ t2) := (not_congr (nI_lex (by rfl) (by rfl) (by omega) (by omega))).mp c_16
                      refine lv_aload_n hx hb dX10_polygons_88 rfl (lv_at hl 3 rfl) ?_
                      refine lv_iload_n hx hb dX10_polygons_89 rfl (lv_at hl 1 rfl) ?_
                      refine lv_iload_n hx hb dX10_polygons_90 rfl (lv_at hl 2 rfl) ?_
                      refine h_callV (n := 2) (ci := 10) (b := mo) (As := [.int (nI s2), .int (nI w9)]) (rest := []) ⟨hx, hb, hml, hown, hts⟩ hK hw (c_X10_isPart l D dT ah_4 H79.size mo AR q_9 g_10 hJ_11.1 np X Y hX nr RP RN hRg ns FG RC PF PC KD WH PA hS s2 w9 (by omega)) ko_X10_isPart km_X10_214 ki_X10_isPart ks_X10_isPart kn_X10 (by decide +kernel) rfl hJ_11.1.1 rfl hl.1 rfl (by simp [Value.category]) dX10_polygons_91 (by rw [hR]; exact ⟨rfl, rfl, Nat.le_of_ble_eq_true rfl, Nat.le_of_ble_eq_true rfl, by simp, by simp⟩) (fun r_18 ah_19 H_20 L_21 st_22 hp hw hst => ?_)
                      obtain ⟨rfl, rfl⟩ := hp
                      have hst : st_22 = [.int (bI (mPart WH RC s2 w9))] := hst
                      subst hst
                      refine lv_if_eq (tgt := 162) hx hb dX10_polygons_94 (by decide) (fun c_23 => ?_) (fun c_23 => ?_)
                      · skip
                        have c_23 : mPart WH RC s2 w9 = false := bI_0.mp c_23
                        refine lv_iinc (v := nI (s2 + 1)) (lv' := [(3, .int (nI (s2 + 1))), (4, .int (nI t2)), (1, .int (nI w9)), (0, .ref mo)]) hx hb dX10_polygons_162 hl (k := 1) rfl (nI_c _ 1) (by decide) rfl (fun ls hl => ?_)
                        refine lv_goto (tgt := 66) hx hb dX10_polygons_165 (by decide) ?_
                        refine W.widen (k := 0 + 0) (n := 0 + 0) (by omega) (by omega) ?_
                        exact ih66 (s2 + 1) ls _ _ (by omega) (by omega) (by omega) (lt_o hp66 (plS_g c_23)) (lv_sub hl [0, 2, 3] rfl) hw
                      · skip
                        have c_23 : ¬ (mPart WH RC s2 w9 = false) := (not_congr bI_0).mp c_23
                        refine lv_aload_n hx hb dX10_polygons_97 rfl (lv_at hl 3 rfl) ?_
                        refine lv_iload hx hb dX10_polygons_98 (lv_at hl 0 rfl) ?_
                        refine lv_iload_n hx hb dX10_polygons_100 rfl (lv_at hl 2 rfl) ?_
                        refine h_callV (n := 2) (ci := 10) (b := mo) (As := [.int (nI t2), .int (nI w9)]) (rest := []) ⟨hx, hb, hml, hown, hts⟩ hK hw (c_X10_isPart l D dT ah_4 H_20.size mo AR q_9 g_10 hJ_11.1 np X Y hX nr RP RN hRg ns FG RC PF PC KD WH PA hS t2 w9 (by omega)) ko_X10_isPart km_X10_214 ki_X10_isPart ks_X10_isPart kn_X10 (by decide +kernel) rfl hJ_11.1.1 rfl hl.1 rfl (by simp [Value.category]) dX10_polygons_101 (by rw [hR]; exact ⟨rfl, rfl, Nat.le_of_ble_eq_true rfl, Nat.le_of_ble_eq_true rfl, by simp, by simp⟩) (fun r_25 ah_26 H_27 L_28 st_29 hp hw hst => ?_)
                        obtain ⟨rfl, rfl⟩ := hp
                        have hst : st_29 = [.int (bI (mPart WH RC t2 w9))] := hst
                        subst hst
                        refine lv_if_eq (tgt := 156) hx hb dX10_polygons_104 (by decide) (fun c_30 => ?_) (fun c_30 => ?_)
                        · skip
                          have c_30 : mPart WH RC t2 w9 = false := bI_0.mp c_30
                          refine lv_iinc (v := nI (t2 + 1)) (lv' := [(4, .int (nI (t2 + 1))), (3, .int (nI s2)), (1, .int (nI w9)), (0, .ref mo)]) hx hb dX10_polygons_156 hl (k := 0) rfl (nI_c _ 1) (by decide) rfl (fun ls hl => ?_)
                          refine lv_goto (tgt := 79) hx hb dX10_polygons_159 (by decide) ?_
                          refine W.widen (k := 0 + 0) (n := 0 + 0) (by omega) (by omega) ?_
                          exact ih79 (t2 + 1) ls _ _ (by omega) (by omega) (by omega) (lt_o hp79 (plT_g c_30)) (lv_sub hl [0, 1, 2, 3] rfl) hw
                        · skip
                          have c_30 : ¬ (mPart WH RC t2 w9 = false) := (not_congr bI_0).mp c_30
                          refine lv_aload_n hx hb dX10_polygons_107 rfl (lv_at hl 3 rfl) ?_
                          refine lv_iload_n hx hb dX10_polygons_108 rfl (lv_at hl 1 rfl) ?_
                          refine lv_iload hx hb dX10_polygons_109 (lv_at hl 0 rfl) ?_
                          refine h_callV (n := 2) (ci := 10) (b := mo) (As := [.int (nI s2), .int (nI t2)]) (rest := []) ⟨hx, hb, hml, hown, hts⟩ hK hw (c_X10_isInside l D dT ah_4 H_27.size mo AR q_9 g_10 hJ_11.1 np X Y hX nr RP RN hRg ns FG RC PF PC KD WH PA hS s2 t2 (by omega) (by omega) (hin9 hpo (by omega) (by omega) (by omega) (by omega) c_23 c_30)) ko_X10_isInside km_X10_226 ki_X10_isInside ks_X10_isInside kn_X10 (by decide +kernel) rfl hJ_11.1.1 rfl hl.1 rfl (by simp [Value.category]) dX10_polygons_111 (by rw [hR]; exact ⟨rfl, rfl, Nat.le_of_ble_eq_true rfl, Nat.le_of_ble_eq_true rfl, by simp, by simp⟩) (fun r_32 ah_33 H_34 L_35 st_36 hp hw hst => ?_)
                          obtain ⟨rfl, rfl⟩ := hp
                          have hst : st_36 = [.int (bI (mIns X Y RP RN (FG s2) (FG t2) (RC t2)))] := hst
                          subst hst
                          refine lv_if_ne (tgt := 127) hx hb dX10_polygons_114 (by decide) (fun c_37 => ?_) (fun c_37 => ?_)
                          · skip
                            have c_37 : ¬ (mIns X Y RP RN (FG s2) (FG t2) (RC t2) = false) := (not_congr bI_0).mp c_37
                            refine lv_aload_n hx hb dX10_polygons_127 rfl (lv_at hl 3 rfl) ?_
                            refine lv_aload_n hx hb dX10_polygons_128 rfl (lv_at hl 3 rfl) ?_
                            refine h_get (ci := 10) (v := .ref (AR 2)) (C := RX10) (T := TX10) (N := 26) hx hb hts kl_X10 hown hK hw hJ_11.1.1 rfl 7 (by decide) (hts _ kf_X10_16) rfl rfl dX10_polygons_129 ?_
                            refine lv_iload hx hb dX10_polygons_132 (lv_at hl 0 rfl) ?_
                            refine h_iald hx hb hK hw (moA_a (n := 2048) (f := g_10 2) hJ_11.1 2 (by decide) rfl rfl) t2 rfl (by omega) (by omega) dX10_polygons_134 ?_
                            rw [show (g_10 2) t2 = PA t2 from (hS.2 _ (by omega)).2.2.1]
                            refine lv_iconst (v := (-1)) hx hb dX10_polygons_135 (by decide) ?_
                            refine lv_iconst (v := (-1)) hx hb dX10_polygons_136 (by decide) ?_
                            refine h_callV (n := 3) (ci := 10) (b := mo) (As := [.int (PA t2), .int (-1), .int (-1)]) (rest := []) ⟨hx, hb, hml, hown, hts⟩ hK hw (c_X10_other l D dT ah_4 H_34.size mo AR q_9 g_10 hJ_11.1 pl hz_ap.2 (PA t2) (-1) (-1)) ko_X10_other km_X10_188 ki_X10_other ks_X10_other kn_X10 (by decide +kernel) rfl hJ_11.1.1 rfl hl.1 rfl (by simp [Value.category]) dX10_polygons_137 (by rw [hR]; exact ⟨rfl, rfl, Nat.le_of_ble_eq_true rfl, Nat.le_of_ble_eq_true rfl, by simp, by simp⟩) (fun r_38 ah_39 H_40 L_41 st_42 hp hw hst => ?_)
                            obtain ⟨rfl, eah_39⟩ := hp
                            have hJ_44 : moK dT ah ah_39 mo AR q g q_9 (va_up g_10 12 (p2 pl (PA t2) (-1) (-1))) := moK_g hJ_11 12 (by decide) eah_39
                            have hst : st_42 = [] := hst
                            subst hst
                            refine lv_aload_n hx hb dX10_polygons_140 rfl (lv_at hl 3 rfl) ?_
                            refine lv_bipush (v := 11) hx hb dX10_polygons_141 (by decide) ?_
                            refine lv_iload_n hx hb dX10_polygons_143 rfl (lv_at hl 2 rfl) ?_
                            refine lv_aload_n hx hb dX10_polygons_144 rfl (lv_at hl 3 rfl) ?_
                            refine h_get (ci := 10) (v := .ref (AR 2)) (C := RX10) (T := TX10) (N := 26) hx hb hts kl_X10 hown hK hw hJ_44.1.1 rfl 7 (by decide) (hts _ kf_X10_16) rfl rfl dX10_polygons_145 ?_
                            refine lv_iload_n hx hb dX10_polygons_148 rfl (lv_at hl 1 rfl) ?_
                            refine h_iald hx hb hK hw (moA_a (n := 2048) (f := g_10 2) hJ_44.1 2 (by decide) rfl rfl) s2 rfl (by omega) (by omega) dX10_polygons_149 ?_
                            rw [show (g_10 2) s2 = PA s2 from (hS.2 _ (by omega)).2.2.1]
                            refine lv_iconst (v := (-1)) hx hb dX10_polygons_150 (by decide) ?_
                            refine lv_iconst (v := (-1)) hx hb dX10_polygons_151 (by decide) ?_
                            refine h_callV (n := 5) (ci := 10) (b := mo) (As := [.int 11, .int (nI w9), .int (PA s2), .int (-1), .int (-1)]) (rest := []) ⟨hx, hb, hml, hown, hts⟩ hK hw (c_X10_told l D dT ah_39 H_40.size mo AR q_9 (va_up g_10 12 (p2 pl (PA t2) (-1) (-1))) hJ_44.1 (p2 pl (PA t2) (-1) (-1)) rfl 11 (nI w9) (PA s2) (-1) (-1)) ko_X10_told km_X10_178 ki_X10_told ks_X10_told kn_X10 (by decide +kernel) rfl hJ_44.1.1 rfl hl.1 rfl (by simp [Value.category]) dX10_polygons_152 (by rw [hR]; exact ⟨rfl, rfl, Nat.le_of_ble_eq_true rfl, Nat.le_of_ble_eq_true rfl, by simp, by simp⟩) (fun r_45 ah_46 H_47 L_48 st_49 hp hw hst => ?_)
                            obtain ⟨rfl, eah_46⟩ := hp
                            have hJ_51 : moK dT ah ah_46 mo AR q g q_9 (va_up (va_up g_10 12 (p2 pl (PA t2) (-1) (-1))) 12 (p1 (upd (p2 pl (PA t2) (-1) (-1)) 0 (nI w9)) (PA s2) (-1) (-1))) := moK_g hJ_44 12 (by decide) eah_46
                            have hst : st_49 = [.int 11] := hst
                            subst hst
                            rw [hQ]
                            exact h_iret hx hb hr hlk hsz hw (by simp) (by simp) dX10_polygons_155 ⟨_, q_9, (va_up (va_up g_10 12 (p2 pl (PA t2) (-1) (-1))) 12 (p1 (upd (p2 pl (PA t2) (-1) (-1)) 0 (nI w9)) (PA s2) (-1) (-1))), rfl, hJ_51, (by rw [show plO X Y RP RN ns FG RC WH PA pl w9 = some (11, p2 (p1 (upd pl 0 (nI w9)) (PA s2) (-1) (-1)) (PA t2) (-1) (-1)) from (oe_n0 (firstO_none hpo)).trans ((oe_n0 hz_ap.1).trans (firstO_some (i := s2) (by omega) (plS_y hs66 c_23 (firstO_some (i := t2) (by omega) (plT_y ht79 c_30 (Or.inl c_37)) hp79)) hp66))]; exact ⟨rfl, (show (0 : Int32) < 11 by decide), pp_c⟩)⟩
                          · skip
                            have c_37 : mIns X Y RP RN (FG s2) (FG t2) (RC t2) = false := bI_0.mp c_37
                            refine lv_aload_n hx hb dX10_polygons_117 rfl (lv_at hl 3 rfl) ?_
                            refine lv_iload hx hb dX10_polygons_118 (lv_at hl 0 rfl) ?_
                            refine lv_iload_n hx hb dX10_polygons_120 rfl (lv_at hl 1 rfl) ?_
                            refine h_callV (n := 2) (ci := 10) (b := mo) (As := [.int (nI t2), .int (nI s2)]) (rest := []) ⟨hx, hb, hml, hown, hts⟩ hK hw (c_X10_isInside l D dT ah_4 H_34.size mo AR q_9 g_10 hJ_11.1 np X Y hX nr RP RN hRg ns FG RC PF PC KD WH PA hS t2 s2 (by omega) (by omega) (hin9 hpo (by omega) (by omega) (by omega) (by omega) c_30 c_23)) ko_X10_isInside km_X10_226 ki_X10_isInside ks_X10_isInside kn_X10 (by decide +kernel) rfl hJ_11.1.1 rfl hl.1 rfl (by simp [Value.category]) dX10_polygons_121 (by rw [hR]; exact ⟨rfl, rfl, Nat.le_of_ble_eq_true rfl, Nat.le_of_ble_eq_true rfl, by simp, by simp⟩) (fun r_52 ah_53 H_54 L_55 st_56 hp hw hst => ?_)
                            obtain ⟨rfl, rfl⟩ := hp
                            have hst : st_56 = [.int (bI (mIns X Y RP RN (FG t2) (FG s2) (RC s2)))] := hst
                            subst hst
                            refine lv_if_eq (tgt := 156) hx hb dX10_polygons_124 (by decide) (fun c_57 => ?_) (fun c_57 => ?_)
                            · skip
                              have c_57 : mIns X Y RP RN (FG t2) (FG s2) (RC s2) = false := bI_0.mp c_57
                              refine lv_iinc (v := nI (t2 + 1)) (lv' := [(4, .int (nI (t2 + 1))), (3, .int (nI s2)), (1, .int (nI w9)), (0, .ref mo)]) hx hb dX10_polygons_156 hl (k := 0) rfl (nI_c _ 1) (by decide) rfl (fun ls hl => ?_)
                              refine lv_goto (tgt := 79) hx hb dX10_polygons_159 (by decide) ?_
                              refine W.widen (k := 0 + 0) (n := 0 + 0) (by omega) (by omega) ?_
                              exact ih79 (t2 + 1) ls _ _ (by omega) (by omega) (by omega) (lt_o hp79 (plT_n c_37 c_57)) (lv_sub hl [0, 1, 2, 3] rfl) hw
                            · skip
                              have c_57 : ¬ (mIns X Y RP RN (FG t2) (FG s2) (RC s2) = false) := (not_congr bI_0).mp c_57
                              refine lv_aload_n hx hb dX10_polygons_127 rfl (lv_at hl 3 rfl) ?_
                              refine lv_aload_n hx hb dX10_polygons_128 rfl (lv_at hl 3 rfl) ?_
                              refine h_get (ci := 10) (v := .ref (AR 2)) (C := RX10) (T := TX10) (N := 26) hx hb hts kl_X10 hown hK hw hJ_11.1.1 rfl 7 (by decide) (hts _ kf_X10_16) rfl rfl dX10_polygons_129 ?_
                              refine lv_iload hx hb dX10_polygons_132 (lv_at hl 0 rfl) ?_
                              refine h_iald hx hb hK hw (moA_a (n := 2048) (f := g_10 2) hJ_11.1 2 (by decide) rfl rfl) t2 rfl (by omega) (by omega) dX10_polygons_134 ?_
                              rw [show (g_10 2) t2 = PA t2 from (hS.2 _ (by omega)).2.2.1]
                              refine lv_iconst (v := (-1)) hx hb dX10_polygons_135 (by decide) ?_
                              refine lv_iconst (v := (-1)) hx hb dX10_polygons_136 (by decide) ?_
                              refine h_callV (n := 3) (ci := 10) (b := mo) (As := [.int (PA t2), .int (-1), .int (-1)]) (rest := []) ⟨hx, hb, hml, hown, hts⟩ hK hw (c_X10_other l D dT ah_4 H_54.size mo AR q_9 g_10 hJ_11.1 pl hz_ap.2 (PA t2) (-1) (-1)) ko_X10_other km_X10_188 ki_X10_other ks_X10_other kn_X10 (by decide +kernel) rfl hJ_11.1.1 rfl hl.1 rfl (by simp [Value.category]) dX10_polygons_137 (by rw [hR]; exact ⟨rfl, rfl, Nat.le_of_ble_eq_true rfl, Nat.le_of_ble_eq_true rfl, by simp, by simp⟩) (fun r_59 ah_60 H_61 L_62 st_63 hp hw hst => ?_)
                              obtain ⟨rfl, eah_60⟩ := hp
                              have hJ_65 : moK dT ah ah_60 mo AR q g q_9 (va_up g_10 12 (p2 pl (PA t2) (-1) (-1))) := moK_g hJ_11 12 (by decide) eah_60
                              have hst : st_63 = [] := hst
                              subst hst
                              refine lv_aload_n hx hb dX10_polygons_140 rfl (lv_at hl 3 rfl) ?_
                              refine lv_bipush (v := 11) hx hb dX10_polygons_141 (by decide) ?_
                              refine lv_iload_n hx hb dX10_polygons_143 rfl (lv_at hl 2 rfl) ?_
                              refine lv_aload_n hx hb dX10_polygons_144 rfl (lv_at hl 3 rfl) ?_
                              refine h_get (ci := 10) (v := .ref (AR 2)) (C := RX10) (T := TX10) (N := 26) hx hb hts kl_X10 hown hK hw hJ_65.1.1 rfl 7 (by decide) (hts _ kf_X10_16) rfl rfl dX10_polygons_145 ?_
                              refine lv_iload_n hx hb dX10_polygons_148 rfl (lv_at hl 1 rfl) ?_
                              refine h_iald hx hb hK hw (moA_a (n := 2048) (f := g_10 2) hJ_65.1 2 (by decide) rfl rfl) s2 rfl (by omega) (by omega) dX10_polygons_149 ?_
                              rw [show (g_10 2) s2 = PA s2 from (hS.2 _ (by omega)).2.2.1]
                              refine lv_iconst (v := (-1)) hx hb dX10_polygons_150 (by decide) ?_
                              refine lv_iconst (v := (-1)) hx hb dX10_polygons_151 (by decide) ?_
                              refine h_callV (n := 5) (ci := 10) (b := mo) (As := [.int 11, .int (nI w9), .int (PA s2), .int (-1), .int (-1)]) (rest := []) ⟨hx, hb, hml, hown, hts⟩ hK hw (c_X10_told l D dT ah_60 H_61.size mo AR q_9 (va_up g_10 12 (p2 pl (PA t2) (-1) (-1))) hJ_65.1 (p2 pl (PA t2) (-1) (-1)) rfl 11 (nI w9) (PA s2) (-1) (-1)) ko_X10_told km_X10_178 ki_X10_told ks_X10_told kn_X10 (by decide +kernel) rfl hJ_65.1.1 rfl hl.1 rfl (by simp [Value.category]) dX10_polygons_152 (by rw [hR]; exact ⟨rfl, rfl, Nat.le_of_ble_eq_true rfl, Nat.le_of_ble_eq_true rfl, by simp, by simp⟩) (fun r_66 ah_67 H_68 L_69 st_70 hp hw hst => ?_)
                              obtain ⟨rfl, eah_67⟩ := hp
                              have hJ_72 : moK dT ah ah_67 mo AR q g q_9 (va_up (va_up g_10 12 (p2 pl (PA t2) (-1) (-1))) 12 (p1 (upd (p2 pl (PA t2) (-1) (-1)) 0 (nI w9)) (PA s2) (-1) (-1))) := moK_g hJ_65 12 (by decide) eah_67
                              have hst : st_70 = [.int 11] := hst
                              subst hst
                              rw [hQ]
                              exact h_iret hx hb hr hlk hsz hw (by simp) (by simp) dX10_polygons_155 ⟨_, q_9, (va_up (va_up g_10 12 (p2 pl (PA t2) (-1) (-1))) 12 (p1 (upd (p2 pl (PA t2) (-1) (-1)) 0 (nI w9)) (PA s2) (-1) (-1))), rfl, hJ_72, (by rw [show plO X Y RP RN ns FG RC WH PA pl w9 = some (11, p2 (p1 (upd pl 0 (nI w9)) (PA s2) (-1) (-1)) (PA t2) (-1) (-1)) from (oe_n0 (firstO_none hpo)).trans ((oe_n0 hz_ap.1).trans (firstO_some (i := s2) (by omega) (plS_y hs66 c_23 (firstO_some (i := t2) (by omega) (plT_y ht79 c_30 (Or.inr c_57)) hp79)) hp66))]; exact ⟨rfl, (show (0 : Int32) < 11 by decide), pp_c⟩)⟩
                exact LP79 ((ns - (s2 + 1)) + 1) (s2 + 1) ls _ _ (Nat.lt_succ_self _) (by omega) (by omega) (fun j hj => if_pos hj) (lv_sub hl [0, 1, 2, 3] rfl) hw
          exact LP66 ((ns - (w9 + 1)) + 1) (w9 + 1) ls _ _ (Nat.lt_succ_self _) (by omega) (by omega) (fun j hj => if_pos hj) (lv_sub hl [0, 2, 3] rfl) hw
        · skip
          refine lv_iload_n hx hb dX10_polygons_60 rfl (lv_at hl 0 rfl) ?_
          rw [hQ]
          exact h_iret hx hb hr hlk hsz hw (by simp) (by simp) dX10_polygons_61 ⟨_, q_9, g_10, rfl, hJ_11, (by obtain ⟨hq1, hq2⟩ := moRs_p hRv_8 c_12; rw [show plO X Y RP RN ns FG RC WH PA pl w9 = some (v_8, g_10 12) from (oe_n0 (firstO_none (fun j hj => hp4 j (by omega)))).trans (oe_s hq1)]; exact ⟨rfl, hq2, rfl⟩)⟩
      · skip
        have c_2 : ¬ (ns ≤ u9) := (not_congr (nI_lex (by rfl) (by rfl) (by omega) (by omega))).mp c_2
        refine lv_aload_n hx hb dX10_polygons_12 rfl (lv_at hl 2 rfl) ?_
        refine lv_iload_n hx hb dX10_polygons_13 rfl (lv_at hl 0 rfl) ?_
        refine lv_iload_n hx hb dX10_polygons_14 rfl (lv_at hl 1 rfl) ?_
        refine h_callV (n := 2) (ci := 10) (b := mo) (As := [.int (nI u9), .int (nI w9)]) (rest := []) ⟨hx, hb, hml, hown, hts⟩ hK hw (c_X10_isPart l D dT ah4 H4.size mo AR q4 g4 hJ4.1 np X Y hX nr RP RN hRg ns FG RC PF PC KD WH PA hS u9 w9 (by omega)) ko_X10_isPart km_X10_214 ki_X10_isPart ks_X10_isPart kn_X10 (by decide +kernel) rfl hJ4.1.1 rfl hl.1 rfl (by simp [Value.category]) dX10_polygons_15 (by rw [hR]; exact ⟨rfl, rfl, Nat.le_of_ble_eq_true rfl, Nat.le_of_ble_eq_true rfl, by simp, by simp⟩) (fun r_73 ah_74 H_75 L_76 st_77 hp hw hst => ?_)
        obtain ⟨rfl, rfl⟩ := hp
        have hst : st_77 = [.int (bI (mPart WH RC u9 w9))] := hst
        subst hst
        refine lv_if_eq (tgt := 36) hx hb dX10_polygons_18 (by decide) (fun c_78 => ?_) (fun c_78 => ?_)
        · skip
          have c_78 : mPart WH RC u9 w9 = false := bI_0.mp c_78
          refine lv_iconst (v := 0) hx hb dX10_polygons_36 (by decide) ?_
          refine lv_istore_n (lv' := [(3, .int 0), (2, .int (nI u9)), (1, .int (nI w9)), (0, .ref mo)]) hx hb dX10_polygons_37 rfl hl (by decide) rfl (fun ls hl => ?_)
          refine lv_iload_n hx hb dX10_polygons_38 rfl (lv_at hl 0 rfl) ?_
          refine lv_if_le (tgt := 44) hx hb dX10_polygons_39 (by decide) (fun c_79 => ?_) (fun c_79 => ?_)
          · skip
            refine lv_iinc (v := nI (u9 + 1)) (lv' := [(2, .int (nI (u9 + 1))), (3, .int 0), (1, .int (nI w9)), (0, .ref mo)]) hx hb dX10_polygons_44 hl (k := 1) rfl (nI_c _ 1) (by decide) rfl (fun ls hl => ?_)
            refine lv_goto (tgt := 4) hx hb dX10_polygons_47 (by decide) ?_
            refine W.widen (k := 0) (n := 0) (by omega) (by omega) ?_
            exact ih4 (u9 + 1) q4 g4 ah4 ls _ _ (by omega) hJ4 hpl4 (by omega) (by omega) (lt_o hp4 (plQ_g c_78)) (lv_sub hl [0, 2, 3] rfl) hw
          · exact absurd c_79 (by decide)
        · skip
          have c_78 : ¬ (mPart WH RC u9 w9 = false) := (not_congr bI_0).mp c_78
          refine lv_aload_n hx hb dX10_polygons_21 rfl (lv_at hl 2 rfl) ?_
          refine lv_iload_n hx hb dX10_polygons_22 rfl (lv_at hl 0 rfl) ?_
          refine lv_iload_n hx hb dX10_polygons_23 rfl (lv_at hl 1 rfl) ?_
          refine lv_aload_n hx hb dX10_polygons_24 rfl (lv_at hl 2 rfl) ?_
          refine h_get (ci := 10) (v := .ref (AR 2)) (C := RX10) (T := TX10) (N := 26) hx hb hts kl_X10 hown hK hw hJ4.1.1 rfl 7 (by decide) (hts _ kf_X10_16) rfl rfl dX10_polygons_25 ?_
          refine lv_iload_n hx hb dX10_polygons_28 rfl (lv_at hl 0 rfl) ?_
          refine h_iald hx hb hK hw (moA_a (n := 2048) (f := g4 2) hJ4.1 2 (by decide) rfl rfl) u9 rfl (by omega) (by omega) dX10_polygons_29 ?_
          rw [show (g4 2) u9 = PA u9 from (hS.2 _ (by omega)).2.2.1]
          refine h_callV (n := 3) (ci := 10) (b := mo) (As := [.int (nI u9), .int (nI w9), .int (PA u9)]) (rest := []) ⟨hx, hb, hml, hown, hts⟩ hK hw (c_X10_polygon l D dT ah4 H_75.size mo AR q4 g4 hJ4.1 np X Y hX nr RP RN hRg ns FG RC PF PC KD WH PA hS pl hpl4 u9 (by omega) (nI w9) (PA u9)) ko_X10_polygon km_X10_220 ki_X10_polygon ks_X10_polygon kn_X10 (by decide +kernel) rfl hJ4.1.1 rfl hl.1 rfl (by simp [Value.category]) dX10_polygons_30 (by rw [hR]; exact ⟨rfl, rfl, Nat.le_of_ble_eq_true rfl, Nat.le_of_ble_eq_true rfl, by simp, by simp⟩) (fun r_81 ah_82 H_83 L_84 st_85 hp hw hst => ?_)
          obtain ⟨v_86, q_87, g_88, rfl, hJv_86, hRv_86⟩ := hp
          have hJ_89 : moK dT ah ah_82 mo AR q g q_87 g_88 := moK_t hJ4 hJv_86
          have hX := moX_k hJv_86 hX
          have hRg := moR_k hJv_86 hRg
          have hS := moS_k hJv_86 hS
          have hst : st_85 = [.int v_86] := hst
          subst hst
          refine lv_goto (tgt := 37) hx hb dX10_polygons_33 (by decide) ?_
          refine lv_istore_n (lv' := [(3, .int v_86), (2, .int (nI u9)), (1, .int (nI w9)), (0, .ref mo)]) hx hb dX10_polygons_37 rfl hl (by decide) rfl (fun ls hl => ?_)
          refine lv_iload_n hx hb dX10_polygons_38 rfl (lv_at hl 0 rfl) ?_
          refine lv_if_le (tgt := 44) hx hb dX10_polygons_39 (by decide) (fun c_90 => ?_) (fun c_90 => ?_)
          · skip
            have hz_pl := moRs_z hRv_86 c_90
            refine lv_iinc (v := nI (u9 + 1)) (lv' := [(2, .int (nI (u9 + 1))), (3, .int v_86), (1, .int (nI w9)), (0, .ref mo)]) hx hb dX10_polygons_44 hl (k := 1) rfl (nI_c _ 1) (by decide) rfl (fun ls hl => ?_)
            refine lv_goto (tgt := 4) hx hb dX10_polygons_47 (by decide) ?_
            refine W.widen (k := 0) (n := 0) (by omega) (by omega) ?_
            exact ih4 (u9 + 1) q_87 g_88 ah_82 ls _ _ (by omega) hJ_89 hz_pl.2 (by omega) (by omega) (lt_o hp4 (plQ_n hz_pl.1)) (lv_sub hl [0, 2, 3] rfl) hw
          · skip
            refine lv_iload_n hx hb dX10_polygons_42 rfl (lv_at hl 0 rfl) ?_
            rw [hQ]
            exact h_iret hx hb hr hlk hsz hw (by simp) (by simp) dX10_polygons_43 ⟨_, q_87, g_88, rfl, hJ_89, (by obtain ⟨hq1, hq2⟩ := moRs_p hRv_86 c_90; rw [show plO X Y RP RN ns FG RC WH PA pl w9 = some (v_86, g_88 12) from oe_s (firstO_some (i := u9) (by omega) (plQ_y hs4 c_78 hq1) hp4)]; exact ⟨rfl, hq2, rfl⟩)⟩
  exact LP4 ((ns - (w9 + 1)) + 1) (w9 + 1) q g ah ls _ _ (Nat.lt_succ_self _) hJ0 hpl (by omega) (by omega) (fun j hj => if_pos hj) (lv_sub hl [0, 2, 1] rfl) hw

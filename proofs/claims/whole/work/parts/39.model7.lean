/-! ShapeJudgeModel: its calls -/
/-- the model's numbers: shapes, numbers, points, rings, opened -/
def moN (q : Nat → Int32) (ns nu np nr no : Nat) : Prop := q 1 = nI ns ∧ q 2 = nI nu ∧ q 3 = nI np ∧ q 4 = nI nr ∧ q 5 = nI no ∧ ns ≤ 2048 ∧ nu ≤ 4096 ∧ np ≤ 4096 ∧ no ≤ 50 ∧ nu = 2 * ns + nr
def moFr (ah ah2 : hA) (mo : Nat) (AR : Nat → Nat) : Prop := ∀ a e, ah a = some e → a ≠ mo → (∀ k, k < 14 → a ≠ AR k) → ah2 a = some e
theorem wiB_l {x lo hi : Int32} (h : ¬ wiB x lo hi = false) : ¬ x < lo := fun h9 => h (if_pos h9)
theorem wiB_6 {x lo : Int32} (h : ¬ wiB x lo 6 = false) : ¬ nI 7 ≤ x := fun h9 => h (by
  have h6 : (6 : Int32) < x := by rw [Int32.lt_iff_toInt_lt]; rw [Int32.le_iff_toInt_le] at h9; have e1 : (6 : Int32).toInt = 6 := rfl; have e2 : (nI 7).toInt = 7 := rfl; omega
  unfold wiB; rw [if_pos h6]; simp)
set_option maxHeartbeats 4000000 in
set_option maxRecDepth 100000 in
theorem c_X10_thrown (l : Launch) (D : va_G) (dT : Nat → ClassId) (ah : hA) (sz : Nat) (mo : Nat) (AR : Nat → Nat) (q : Nat → Int32) (g : Nat → Nat → Int32) (hm : moA dT ah mo AR q g) : hMet l yX10_thrown cX10_thrown 1 (some .int) ({ frames := 0, cells := 0, slots := 0, locals := 0 }) D dT [.ref mo] ah sz (fun r ah2 => r = some (.int (q 0)) ∧ ah = ah2) 0 0 := by
  refine h_met (by decide) (Nat.le_of_ble_eq_true rfl) ?_
  intro p e s m below meth c ls R Q args hav hR hQ hB hl hsz hw
  obtain ⟨hx, hb, hml, hr, hts, hown, hlk, hin, hK⟩ := hB
  have hown : s.vm.findClass RX10 = some m.cls := hown
  have hl : lv_has ls 1 [(0, .ref mo)] := hl
  refine lv_aload_n hx hb dX10_thrown_0 rfl (lv_at hl 0 rfl) ?_
  refine h_get (ci := 10) (v := .int (q 0)) (C := RX10) (T := TX10) (N := 26) hx hb hts kl_X10 hown hK hw hm.1 rfl 0 (by decide) (hts _ kf_X10_52) rfl rfl dX10_thrown_1 ?_
  rw [hQ]
  exact h_iret hx hb hr hlk hsz hw (by simp) (by simp) dX10_thrown_4 ⟨rfl, rfl⟩

set_option maxHeartbeats 4000000 in
set_option maxRecDepth 100000 in
theorem c_X10_fail (l : Launch) (D : va_G) (dT : Nat → ClassId) (ah : hA) (sz : Nat) (mo : Nat) (AR : Nat → Nat) (q : Nat → Int32) (g : Nat → Nat → Int32) (hm : moA dT ah mo AR q g) (cd9 : Int32) : hMet l yX10_fail cX10_fail 2 (some .int) ({ frames := 0, cells := 0, slots := 0, locals := 0 }) D dT [.ref mo, .int cd9] ah sz (fun r ah2 => r = some (.int 0) ∧ ah2 = hup ah mo (.inr (10, moF (upd q 0 cd9) AR))) 0 0 := by
  refine h_met (by decide) (Nat.le_of_ble_eq_true rfl) ?_
  intro p e s m below meth c ls R Q args hav hR hQ hB hl hsz hw
  obtain ⟨hx, hb, hml, hr, hts, hown, hlk, hin, hK⟩ := hB
  have hown : s.vm.findClass RX10 = some m.cls := hown
  have hl : lv_has ls 2 [(0, .ref mo), (1, .int cd9)] := hl
  refine lv_aload_n hx hb dX10_fail_0 rfl (lv_at hl 0 rfl) ?_
  refine lv_iload_n hx hb dX10_fail_1 rfl (lv_at hl 1 rfl) ?_
  refine h_put (ci := 10) (v := .int cd9) (C := RX10) (T := TX10) (N := 26) hx hb hts kl_X10 tyX10 tyX10_ok nmX10 hown hK hw hm.1 rfl 0 (by decide) (hts _ kf_X10_52) rfl rfl (tyX10_ok 0 (by decide)) rfl rfl (Nat.le_of_ble_eq_true rfl) dX10_fail_2 (fun H_1 L_2 hw => ?_)
  obtain ⟨ah_3, eah_3⟩ : ∃ z9 : hA, z9 = hup ah mo (.inr (10, moF (upd q 0 cd9) AR)) := ⟨_, rfl⟩
  have hw : hW D ah s.heap ah_3 H_1 L_2 := by rw [eah_3, ← mf_0]; exact hw
  have hm_4 : moA dT ah_3 mo AR (upd q 0 cd9) g := moA_q hm eah_3
  refine lv_iconst (v := 0) hx hb dX10_fail_5 (by decide) ?_
  rw [hQ]
  exact h_iret hx hb hr hlk hsz hw (by simp) (by simp) dX10_fail_6 ⟨rfl, eah_3⟩

set_option maxHeartbeats 4000000 in
set_option maxRecDepth 100000 in
theorem c_X10_noPlace (l : Launch) (D : va_G) (dT : Nat → ClassId) (ah : hA) (sz : Nat) (mo : Nat) (AR : Nat → Nat) (q : Nat → Int32) (g : Nat → Nat → Int32) (hm : moA dT ah mo AR q g) (pl : Nat → Int32) (hpl : g 12 = pl) : hMet l yX10_noPlace cX10_noPlace 2 none ({ frames := 0, cells := 0, slots := 0, locals := 0 }) D dT [.ref mo] ah sz (fun r ah2 => r = none ∧ ah2 = hup ah (AR 12) (.inl (dT 0, 7, .inl (fillF pl (-1) 7)))) 0 0 := by
  refine h_met (by decide) (Nat.le_of_ble_eq_true rfl) ?_
  intro p e s m below meth c ls R Q args hav hR hQ hB hl hsz hw
  obtain ⟨hx, hb, hml, hr, hts, hown, hlk, hin, hK⟩ := hB
  have hown : s.vm.findClass RX10 = some m.cls := hown
  have hl : lv_has ls 2 [(0, .ref mo)] := hl
  refine lv_iconst (v := 0) hx hb dX10_noPlace_0 (by decide) ?_
  refine lv_istore_n (lv' := [(1, .int 0), (0, .ref mo)]) hx hb dX10_noPlace_1 rfl hl (by decide) rfl (fun ls hl => ?_)
  have LP2 : ∀ (k2 : Nat) (k : Nat) (ah2 : hA) (ls : Array Slot) (H2 : Heap) (L2 : List Loc), (7 - k < k2) → (k ≤ 7) → (ah2 = hup ah (AR 12) (.inl (dT 0, 7, .inl (fillF pl (-1) k)))) → lv_has ls 2 [(1, .int (nI k)), (0, .ref mo)] → hW D ah s.heap ah2 H2 L2 → W p l e R s m args below meth c H2 L2 (0) (0) Q (F0 m 2 ls []) := by
    intro k2
    induction k2 with
    | zero => intro k ah2 ls H2 L2 hk; exact absurd hk (Nat.not_lt_zero _)
    | succ k2 ih2 =>
      intro k ah2 ls H2 L2 hk2 hk2 he2 hl hw
      have hm2 : moA dT ah2 mo AR q (va_up g 12 (fillF pl (-1) k)) := moA_g hm 12 (by decide) he2
      refine lv_iload_n hx hb dX10_noPlace_2 rfl (lv_at hl 0 rfl) ?_
      refine lv_bipush (v := 7) hx hb dX10_noPlace_3 (by decide) ?_
      refine lv_icmp_ge (tgt := 21) hx hb dX10_noPlace_5 (by decide) (fun c_1 => ?_) (fun c_1 => ?_)
      · skip
        have c_1 : 7 ≤ k := (nI_lex (by decide) (by rfl) (by omega) (by omega)).mp c_1
        rw [hQ]
        exact h_vret hx hb hr hlk hsz hw (by simp) (by simp) dX10_noPlace_21 ⟨rfl, he2.trans (by rw [show k = 7 by omega])⟩
      · skip
        have c_1 : ¬ (7 ≤ k) := (not_congr (nI_lex (by decide) (by rfl) (by omega) (by omega))).mp c_1
        refine lv_aload_n hx hb dX10_noPlace_8 rfl (lv_at hl 1 rfl) ?_
        refine h_get (ci := 10) (v := .ref (AR 12)) (C := RX10) (T := TX10) (N := 26) hx hb hts kl_X10 hown hK hw hm2.1 rfl 18 (by decide) (hts _ kf_X10_46) rfl rfl dX10_noPlace_9 ?_
        refine lv_iload_n hx hb dX10_noPlace_12 rfl (lv_at hl 0 rfl) ?_
        refine lv_iconst (v := (-1)) hx hb dX10_noPlace_13 (by decide) ?_
        refine h_iast hx hb hK hw (moA_a (n := 7) (f := fillF pl (-1) k) hm2 12 (by decide) rfl rfl) k rfl (by omega) (by omega) dX10_noPlace_14 (fun H_2 L_3 hw => ?_)
        obtain ⟨ah_4, eah_4⟩ : ∃ z9 : hA, z9 = hup ah2 (AR 12) (.inl (dT 0, 7, .inl (upd (fillF pl (-1) k) k (-1)))) := ⟨_, rfl⟩
        have hw : hW D ah s.heap ah_4 H_2 L_3 := by rw [eah_4]; exact hw
        have hm_5 : moA dT ah_4 mo AR q (va_up (va_up g 12 (fillF pl (-1) k)) 12 (upd (fillF pl (-1) k) k (-1))) := moA_g hm2 12 (by decide) eah_4
        refine lv_iinc (v := nI (k + 1)) (lv' := [(1, .int (nI (k + 1))), (0, .ref mo)]) hx hb dX10_noPlace_15 hl (k := 0) rfl (nI_c _ 1) (by decide) rfl (fun ls hl => ?_)
        refine lv_goto (tgt := 2) hx hb dX10_noPlace_18 (by decide) ?_
        exact ih2 (k + 1) ah_4 ls _ _ (by omega) (by omega) (by rw [eah_4, he2, hup_hup, ← fillF_s]) (lv_sub hl [0, 1] rfl) hw
  exact LP2 ((7 - 0) + 1) 0 ah ls _ _ (Nat.lt_succ_self _) (by omega) ((hup_id (show ah (AR 12) = some (.inl (dT 0, LN 12, .inl (fillF pl (-1) 0))) from by rw [fillF_0, ← hpl]; exact hm.2.1 12 (by decide))).symm) (lv_sub hl [0, 1] rfl) hw

set_option maxHeartbeats 4000000 in
set_option maxRecDepth 100000 in
theorem c_X10_clear (l : Launch) (D : va_G) (dT : Nat → ClassId) (ah : hA) (sz : Nat) (mo : Nat) (AR : Nat → Nat) (q : Nat → Int32) (g : Nat → Nat → Int32) (hm : moA dT ah mo AR q g) (pl : Nat → Int32) (hpl : g 12 = pl) (ns nu np nr no : Nat) (hN : moN q ns nu np nr no) : hMet l yX10_clear cX10_clear 2 (some .int) ({ frames := 1, cells := 0, slots := 0, locals := 21 }) D dT [.ref mo] ah sz (fun r ah2 => ∃ q2 g2, r = some (.int (nI nu)) ∧ moA dT ah2 mo AR q2 g2 ∧ moN q2 0 0 0 0 0 ∧ q2 0 = 0 ∧ g2 12 = fillF pl (-1) 7 ∧ (∀ k, k < 14 → ¬ k = 12 → g2 k = g k) ∧ moFr ah ah2 mo AR) 0 0 := by
  refine h_met (by decide) (Nat.le_of_ble_eq_true rfl) ?_
  intro p e s m below meth c ls R Q args hav hR hQ hB hl hsz hw
  obtain ⟨hx, hb, hml, hr, hts, hown, hlk, hin, hK⟩ := hB
  have hown : s.vm.findClass RX10 = some m.cls := hown
  have hl : lv_has ls 2 [(0, .ref mo)] := hl
  refine lv_aload_n hx hb dX10_clear_0 rfl (lv_at hl 0 rfl) ?_
  refine lv_iconst (v := 0) hx hb dX10_clear_1 (by decide) ?_
  refine h_put (ci := 10) (v := .int 0) (C := RX10) (T := TX10) (N := 26) hx hb hts kl_X10 tyX10 tyX10_ok nmX10 hown hK hw hm.1 rfl 0 (by decide) (hts _ kf_X10_52) rfl rfl (tyX10_ok 0 (by decide)) rfl rfl (Nat.le_of_ble_eq_true rfl) dX10_clear_2 (fun H_1 L_2 hw => ?_)
  obtain ⟨ah_3, eah_3⟩ : ∃ z9 : hA, z9 = hup ah mo (.inr (10, moF (upd q 0 0) AR)) := ⟨_, rfl⟩
  have hw : hW D ah s.heap ah_3 H_1 L_2 := by rw [eah_3, ← mf_0]; exact hw
  have hm_4 : moA dT ah_3 mo AR (upd q 0 0) g := moA_q hm eah_3
  refine lv_aload_n hx hb dX10_clear_5 rfl (lv_at hl 0 rfl) ?_
  refine h_get (ci := 10) (v := .int (q 2)) (C := RX10) (T := TX10) (N := 26) hx hb hts kl_X10 hown hK hw hm_4.1 rfl 2 (by decide) (hts _ kf_X10_56) rfl (congrArg (fun z => some (Value.int z)) (show (upd q 0 0) 2 = q 2 from (upd_n (by decide)))) dX10_clear_6 ?_
  rw [show q 2 = nI nu from hN.2.1]
  refine lv_istore_n (lv' := [(1, .int (nI nu)), (0, .ref mo)]) hx hb dX10_clear_9 rfl hl (by decide) rfl (fun ls hl => ?_)
  refine lv_aload_n hx hb dX10_clear_10 rfl (lv_at hl 1 rfl) ?_
  refine lv_iconst (v := 0) hx hb dX10_clear_11 (by decide) ?_
  refine h_put (ci := 10) (v := .int 0) (C := RX10) (T := TX10) (N := 26) hx hb hts kl_X10 tyX10 tyX10_ok nmX10 hown hK hw hm_4.1 rfl 1 (by decide) (hts _ kf_X10_59) rfl rfl (tyX10_ok 1 (by decide)) rfl rfl (Nat.le_of_ble_eq_true rfl) dX10_clear_12 (fun H_5 L_6 hw => ?_)
  obtain ⟨ah_7, eah_7⟩ : ∃ z9 : hA, z9 = hup ah_3 mo (.inr (10, moF (upd (upd q 0 0) 1 0) AR)) := ⟨_, rfl⟩
  have hw : hW D ah s.heap ah_7 H_5 L_6 := by rw [eah_7, ← mf_1]; exact hw
  have hm_8 : moA dT ah_7 mo AR (upd (upd q 0 0) 1 0) g := moA_q hm_4 eah_7
  refine lv_aload_n hx hb dX10_clear_15 rfl (lv_at hl 1 rfl) ?_
  refine lv_iconst (v := 0) hx hb dX10_clear_16 (by decide) ?_
  refine h_put (ci := 10) (v := .int 0) (C := RX10) (T := TX10) (N := 26) hx hb hts kl_X10 tyX10 tyX10_ok nmX10 hown hK hw hm_8.1 rfl 2 (by decide) (hts _ kf_X10_56) rfl rfl (tyX10_ok 2 (by decide)) rfl rfl (Nat.le_of_ble_eq_true rfl) dX10_clear_17 (fun H_9 L_10 hw => ?_)
  obtain ⟨ah_11, eah_11⟩ : ∃ z9 : hA, z9 = hup ah_7 mo (.inr (10, moF (upd (upd (upd q 0 0) 1 0) 2 0) AR)) := ⟨_, rfl⟩
  have hw : hW D ah s.heap ah_11 H_9 L_10 := by rw [eah_11, ← mf_2]; exact hw
  have hm_12 : moA dT ah_11 mo AR (upd (upd (upd q 0 0) 1 0) 2 0) g := moA_q hm_8 eah_11
  refine lv_aload_n hx hb dX10_clear_20 rfl (lv_at hl 1 rfl) ?_
  refine lv_iconst (v := 0) hx hb dX10_clear_21 (by decide) ?_
  refine h_put (ci := 10) (v := .int 0) (C := RX10) (T := TX10) (N := 26) hx hb hts kl_X10 tyX10 tyX10_ok nmX10 hown hK hw hm_12.1 rfl 3 (by decide) (hts _ kf_X10_62) rfl rfl (tyX10_ok 3 (by decide)) rfl rfl (Nat.le_of_ble_eq_true rfl) dX10_clear_22 (fun H_13 L_14 hw => ?_)
  obtain ⟨ah_15, eah_15⟩ : ∃ z9 : hA, z9 = hup ah_11 mo (.inr (10, moF (upd (upd (upd (upd q 0 0) 1 0) 2 0) 3 0) AR)) := ⟨_, rfl⟩
  have hw : hW D ah s.heap ah_15 H_13 L_14 := by rw [eah_15, ← mf_3]; exact hw
  have hm_16 : moA dT ah_15 mo AR (upd (upd (upd (upd q 0 0) 1 0) 2 0) 3 0) g := moA_q hm_12 eah_15
  refine lv_aload_n hx hb dX10_clear_25 rfl (lv_at hl 1 rfl) ?_
  refine lv_iconst (v := 0) hx hb dX10_clear_26 (by decide) ?_
  refine h_put (ci := 10) (v := .int 0) (C := RX10) (T := TX10) (N := 26) hx hb hts kl_X10 tyX10 tyX10_ok nmX10 hown hK hw hm_16.1 rfl 4 (by decide) (hts _ kf_X10_65) rfl rfl (tyX10_ok 4 (by decide)) rfl rfl (Nat.le_of_ble_eq_true rfl) dX10_clear_27 (fun H_17 L_18 hw => ?_)
  obtain ⟨ah_19, eah_19⟩ : ∃ z9 : hA, z9 = hup ah_15 mo (.inr (10, moF (upd (upd (upd (upd (upd q 0 0) 1 0) 2 0) 3 0) 4 0) AR)) := ⟨_, rfl⟩
  have hw : hW D ah s.heap ah_19 H_17 L_18 := by rw [eah_19, ← mf_4]; exact hw
  have hm_20 : moA dT ah_19 mo AR (upd (upd (upd (upd (upd q 0 0) 1 0) 2 0) 3 0) 4 0) g := moA_q hm_16 eah_19
  refine lv_aload_n hx hb dX10_clear_30 rfl (lv_at hl 1 rfl) ?_
  refine lv_iconst (v := 0) hx hb dX10_clear_31 (by decide) ?_
  refine h_put (ci := 10) (v := .int 0) (C := RX10) (T := TX10) (N := 26) hx hb hts kl_X10 tyX10 tyX10_ok nmX10 hown hK hw hm_20.1 rfl 16 (by decide) (hts _ kf_X10_68) rfl rfl (tyX10_ok 16 (by decide)) rfl rfl (Nat.le_of_ble_eq_true rfl) dX10_clear_32 (fun H_21 L_22 hw => ?_)
  obtain ⟨ah_23, eah_23⟩ : ∃ z9 : hA, z9 = hup ah_19 mo (.inr (10, moF (upd (upd (upd (upd (upd (upd q 0 0) 1 0) 2 0) 3 0) 4 0) 5 0) AR)) := ⟨_, rfl⟩
  have hw : hW D ah s.heap ah_23 H_21 L_22 := by rw [eah_23, ← mf_16]; exact hw
  have hm_24 : moA dT ah_23 mo AR (upd (upd (upd (upd (upd (upd q 0 0) 1 0) 2 0) 3 0) 4 0) 5 0) g := moA_q hm_20 eah_23
  refine lv_aload_n hx hb dX10_clear_35 rfl (lv_at hl 1 rfl) ?_
  refine h_callV (n := 0) (ci := 10) (b := mo) (As := []) (rest := []) ⟨hx, hb, hml, hown, hts⟩ hK hw (c_X10_noPlace l D dT ah_23 H_21.size mo AR (upd (upd (upd (upd (upd (upd q 0 0) 1 0) 2 0) 3 0) 4 0) 5 0) g hm_24 pl hpl) ko_X10_noPlace km_X10_71 ki_X10_noPlace ks_X10_noPlace kn_X10 (by decide +kernel) rfl hm_24.1 rfl hl.1 rfl (by simp [Value.category]) dX10_clear_36 (by rw [hR]; exact ⟨rfl, rfl, Nat.le_of_ble_eq_true rfl, Nat.le_of_ble_eq_true rfl, by simp, by simp⟩) (fun r_25 ah_26 H_27 L_28 st_29 hp hw hst => ?_)
  obtain ⟨rfl, eah_26⟩ := hp
  have hm_30 : moA dT ah_26 mo AR (upd (upd (upd (upd (upd (upd q 0 0) 1 0) 2 0) 3 0) 4 0) 5 0) (va_up g 12 (fillF pl (-1) 7)) := moA_g hm_24 12 (by decide) eah_26
  have hst : st_29 = [] := hst
  subst hst
  refine lv_iload_n hx hb dX10_clear_39 rfl (lv_at hl 0 rfl) ?_
  rw [hQ]
  exact h_iret hx hb hr hlk hsz hw (by simp) (by simp) dX10_clear_40 ⟨(upd (upd (upd (upd (upd (upd q 0 0) 1 0) 2 0) 3 0) 4 0) 5 0), (va_up g 12 (fillF pl (-1) 7)), rfl, hm_30, ⟨rfl, rfl, rfl, rfl, rfl, by omega⟩, rfl, rfl, (fun k hk h12 => if_neg h12), (fun a e9 h1 h2 h3 => by rw [eah_26, hup_n (h3 12 (by decide)), eah_23, hup_n h2, eah_19, hup_n h2, eah_15, hup_n h2, eah_11, hup_n h2, eah_7, hup_n h2, eah_3, hup_n h2]; exact h1)⟩

def topI (OP : Nat → Nat) (no : Nat) : Int32 := (if no ≤ 0 then (-1) else nI (OP (no - 1)))
set_option maxHeartbeats 4000000 in
set_option maxRecDepth 100000 in
theorem c_X10_top (l : Launch) (D : va_G) (dT : Nat → ClassId) (ah : hA) (sz : Nat) (mo : Nat) (AR : Nat → Nat) (q : Nat → Int32) (g : Nat → Nat → Int32) (hm : moA dT ah mo AR q g) (OP : Nat → Nat) (no : Nat) (hOP : q 5 = nI no ∧ no ≤ 50 ∧ ∀ j, j < no → g 11 j = nI (OP j)) : hMet l yX10_top cX10_top 1 (some .int) ({ frames := 0, cells := 0, slots := 0, locals := 0 }) D dT [.ref mo] ah sz (fun r ah2 => r = some (.int (topI OP no)) ∧ ah = ah2) 0 0 := by
  refine h_met (by decide) (Nat.le_of_ble_eq_true rfl) ?_
  intro p e s m below meth c ls R Q args hav hR hQ hB hl hsz hw
  obtain ⟨hx, hb, hml, hr, hts, hown, hlk, hin, hK⟩ := hB
  have hown : s.vm.findClass RX10 = some m.cls := hown
  have hl : lv_has ls 1 [(0, .ref mo)] := hl
  have hno5 := hOP.2.1
  refine lv_aload_n hx hb dX10_top_0 rfl (lv_at hl 0 rfl) ?_
  refine h_get (ci := 10) (v := .int (q 5)) (C := RX10) (T := TX10) (N := 26) hx hb hts kl_X10 hown hK hw hm.1 rfl 16 (by decide) (hts _ kf_X10_68) rfl rfl dX10_top_1 ?_
  rw [show q 5 = nI no from hOP.1]
  have J_4 : ∀ (v_3 : Int32) (ls : Array Slot), lv_has ls 1 [(0, .ref mo)] → v_3 = (if no ≤ 0 then (-1) else nI (OP (no - 1))) → W p l e R s m args below meth c s.heap [] (0) (0) Q (F0 m 22 ls [.int v_3]) := by
    intro v_3 ls hl ev_3
    have hv : v_3 = topI OP no := by
      subst ev_3
      unfold topI
      all_goals rfl
    rw [hQ]
    exact h_iret hx hb hr hlk hsz hw (by simp) (by simp) dX10_top_22 ⟨congrArg (fun z => some (Value.int z)) hv, rfl⟩
  refine lv_if_le (tgt := 21) hx hb dX10_top_4 (by decide) (fun c_1 => ?_) (fun c_1 => ?_)
  · skip
    have c_1 : no ≤ 0 := (nI_lex (by rfl) (by decide) (by omega) (by omega)).mp c_1
    refine lv_iconst (v := (-1)) hx hb dX10_top_21 (by decide) ?_
    exact J_4 (-1) ls (lv_sub hl [0] rfl) (by rw [if_pos c_1])
  · skip
    have c_1 : ¬ (no ≤ 0) := (not_congr (nI_lex (by rfl) (by decide) (by omega) (by omega))).mp c_1
    refine lv_aload_n hx hb dX10_top_7 rfl (lv_at hl 0 rfl) ?_
    refine h_get (ci := 10) (v := .ref (AR 11)) (C := RX10) (T := TX10) (N := 26) hx hb hts kl_X10 hown hK hw hm.1 rfl 17 (by decide) (hts _ kf_X10_43) rfl rfl dX10_top_8 ?_
    refine lv_aload_n hx hb dX10_top_11 rfl (lv_at hl 0 rfl) ?_
    refine h_get (ci := 10) (v := .int (q 5)) (C := RX10) (T := TX10) (N := 26) hx hb hts kl_X10 hown hK hw hm.1 rfl 16 (by decide) (hts _ kf_X10_68) rfl rfl dX10_top_12 ?_
    rw [show q 5 = nI no from hOP.1]
    refine lv_iconst (v := 1) hx hb dX10_top_15 (by decide) ?_
    refine lv_isub hx hb dX10_top_16 ?_
    refine lv_topi (fun t_2 et_2 => ?_)
    obtain rfl : t_2 = nI (no - 1) := et_2.trans (nI_s _ 1 (by omega))
    refine h_iald hx hb hK hw (moA_a (n := 50) (f := g 11) hm 11 (by decide) rfl rfl) (no - 1) rfl (by omega) (by omega) dX10_top_17 ?_
    rw [show (g 11) (no - 1) = nI (OP (no - 1)) from (hOP.2.2 _ (by omega))]
    refine lv_goto (tgt := 22) hx hb dX10_top_18 (by decide) ?_
    exact J_4 (nI (OP (no - 1))) ls (lv_sub hl [0] rfl) (by rw [if_neg c_1])
theorem topI_p {OP : Nat → Nat} {no : Nat} (h : 0 < no) : topI OP no = nI (OP (no - 1)) := if_neg (by omega)

def mTake (KD : Nat → Int32) (OP : Nat → Nat) (ns no : Nat) (x : Int32) : Bool := (if no = 0 then (if ns = 0 then true else false) else (if 50 ≤ no then false else (if KD (OP (no - 1)) = 7 then true else (if KD (OP (no - 1)) ≤ 3 then false else (if x = (KD (OP (no - 1)) - 3) then true else false)))))
set_option maxHeartbeats 4000000 in
set_option maxRecDepth 100000 in
theorem c_X10_takes (l : Launch) (D : va_G) (dT : Nat → ClassId) (ah : hA) (sz : Nat) (mo : Nat) (AR : Nat → Nat) (q : Nat → Int32) (g : Nat → Nat → Int32) (hm : moA dT ah mo AR q g) (ns nu np nr no : Nat) (hN : moN q ns nu np nr no) (FG RC PF PC : Nat → Nat) (KD WH PA : Nat → Int32) (hS : moS ns np nr g FG RC PF PC KD WH PA) (OP : Nat → Nat) (hOQ : ∀ j, j < no → g 11 j = nI (OP j) ∧ OP j < ns) (x : Int32) : hMet l yX10_takes cX10_takes 3 (some .boolean) ({ frames := 1, cells := 0, slots := 0, locals := 20 }) D dT [.ref mo, .int x] ah sz (fun r ah2 => r = some (.int (bI (mTake KD OP ns no x))) ∧ ah = ah2) 0 0 := by
  refine h_met (by decide) (Nat.le_of_ble_eq_true rfl) ?_
  intro p e s m below meth c ls R Q args hav hR hQ hB hl hsz hw
  obtain ⟨hx, hb, hml, hr, hts, hown, hlk, hin, hK⟩ := hB
  have hown : s.vm.findClass RX10 = some m.cls := hown
  have hl : lv_has ls 3 [(0, .ref mo), (1, .int x)] := hl
  have hns9 := hS.1
  obtain ⟨hn1, hn2, hn3, hn4, hn5⟩ := hN.2.2.2.2.2
  have hO1 : 0 < no → OP (no - 1) < ns := fun h9 => (hOQ _ (by omega)).2
  refine lv_aload_n hx hb dX10_takes_0 rfl (lv_at hl 0 rfl) ?_
  refine h_get (ci := 10) (v := .int (q 5)) (C := RX10) (T := TX10) (N := 26) hx hb hts kl_X10 hown hK hw hm.1 rfl 16 (by decide) (hts _ kf_X10_68) rfl rfl dX10_takes_1 ?_
  rw [show q 5 = nI no from hN.2.2.2.2.1]
  refine lv_if_ne (tgt := 20) hx hb dX10_takes_4 (by decide) (fun c_1 => ?_) (fun c_1 => ?_)
  · skip
    have c_1 : ¬ (no = 0) := (not_congr (nI_eqx (by rfl) (by decide) (by omega) (by omega))).mp c_1
    refine lv_aload_n hx hb dX10_takes_20 rfl (lv_at hl 0 rfl) ?_
    refine h_get (ci := 10) (v := .ref (AR 0)) (C := RX10) (T := TX10) (N := 26) hx hb hts kl_X10 hown hK hw hm.1 rfl 5 (by decide) (hts _ kf_X10_7) rfl rfl dX10_takes_21 ?_
    have hO1 := hO1 (by omega)
    refine lv_aload_n hx hb dX10_takes_24 rfl (lv_at hl 0 rfl) ?_
    refine h_callV (n := 0) (ci := 10) (b := mo) (As := []) (rest := [.ref (AR 0)]) ⟨hx, hb, hml, hown, hts⟩ hK hw (c_X10_top l D dT ah s.heap.size mo AR q g hm OP no ⟨hN.2.2.2.2.1, hN.2.2.2.2.2.2.2.2.1, fun j hj => (hOQ j hj).1⟩) ko_X10_top km_X10_74 ki_X10_top ks_X10_top kn_X10 (by decide +kernel) rfl hm.1 rfl hl.1 rfl (by simp [Value.category]) dX10_takes_25 (by rw [hR]; exact ⟨rfl, rfl, Nat.le_of_ble_eq_true rfl, Nat.le_of_ble_eq_true rfl, by simp, by simp⟩) (fun r_2 ah_3 H_4 L_5 st_6 hp hw hst => ?_)
    obtain ⟨rfl, rfl⟩ := hp
    rw [topI_p (by omega)] at hst
    have hst : st_6 = [.int (nI (OP (no - 1))), .ref (AR 0)] := hst
    subst hst
    refine h_iald hx hb hK hw (moA_a (n := 2048) (f := g 0) hm 0 (by decide) rfl rfl) (OP (no - 1)) rfl (by omega) (by omega) dX10_takes_28 ?_
    rw [show (g 0) (OP (no - 1)) = KD (OP (no - 1)) from (hS.2 _ (by omega)).1]
    refine lv_istore_n (lv' := [(2, .int (KD (OP (no - 1)))), (0, .ref mo), (1, .int x)]) hx hb dX10_takes_29 rfl hl (by decide) rfl (fun ls hl => ?_)
    refine lv_aload_n hx hb dX10_takes_30 rfl (lv_at hl 1 rfl) ?_
    refine h_get (ci := 10) (v := .int (q 5)) (C := RX10) (T := TX10) (N := 26) hx hb hts kl_X10 hown hK hw hm.1 rfl 16 (by decide) (hts _ kf_X10_68) rfl rfl dX10_takes_31 ?_
    rw [show q 5 = nI no from hN.2.2.2.2.1]
    refine lv_bipush (v := 50) hx hb dX10_takes_34 (by decide) ?_
    have J_12 : ∀ (v_11 : Int32) (ls : Array Slot), lv_has ls 3 [(2, .int (KD (OP (no - 1)))), (0, .ref mo), (1, .int x)] → v_11 = (if 50 ≤ no then 0 else (if KD (OP (no - 1)) = 7 then 1 else (if KD (OP (no - 1)) ≤ 3 then 0 else (if x = (KD (OP (no - 1)) - 3) then 1 else 0)))) → W p l e R s m args below meth c H_4 L_5 (0 + 0) (0 + 0) Q (F0 m 62 ls [.int v_11]) := by
      intro v_11 ls hl ev_11
      have hv : v_11 = bI (mTake KD OP ns no x) := by
        subst ev_11
        unfold mTake
        simp only [bI_if, bI_t, bI_f]
        all_goals rw [if_neg c_1]
      rw [hQ]
      exact h_zret hx hb hr hlk hsz hw (by simp) (by simp) dX10_takes_62 (bI_v hv) ⟨congrArg (fun z => some (Value.int z)) hv, rfl⟩
    refine lv_icmp_ge (tgt := 61) hx hb dX10_takes_36 (by decide) (fun c_7 => ?_) (fun c_7 => ?_)
    · skip
      have c_7 : 50 ≤ no := (nI_lex (by decide) (by rfl) (by omega) (by omega)).mp c_7
      refine lv_iconst (v := 0) hx hb dX10_takes_61 (by decide) ?_
      exact J_12 0 ls (lv_sub hl [0, 1, 2] rfl) (by rw [if_pos c_7])
    · skip
      have c_7 : ¬ (50 ≤ no) := (not_congr (nI_lex (by decide) (by rfl) (by omega) (by omega))).mp c_7
      refine lv_iload_n hx hb dX10_takes_39 rfl (lv_at hl 0 rfl) ?_
      refine lv_bipush (v := 7) hx hb dX10_takes_40 (by decide) ?_
      refine lv_icmp_eq (tgt := 57) hx hb dX10_takes_42 (by decide) (fun c_8 => ?_) (fun c_8 => ?_)
      · skip
        refine lv_iconst (v := 1) hx hb dX10_takes_57 (by decide) ?_
        refine lv_goto (tgt := 62) hx hb dX10_takes_58 (by decide) ?_
        exact J_12 1 ls (lv_sub hl [0, 1, 2] rfl) (by rw [if_neg c_7, if_pos c_8])
      · skip
        refine lv_iload_n hx hb dX10_takes_45 rfl (lv_at hl 0 rfl) ?_
        refine lv_iconst (v := 3) hx hb dX10_takes_46 (by decide) ?_
        refine lv_icmp_le (tgt := 61) hx hb dX10_takes_47 (by decide) (fun c_9 => ?_) (fun c_9 => ?_)
        · skip
          refine lv_iconst (v := 0) hx hb dX10_takes_61 (by decide) ?_
          exact J_12 0 ls (lv_sub hl [0, 1, 2] rfl) (by rw [if_neg c_7, if_neg c_8, if_pos c_9])
        · skip
          refine lv_iload_n hx hb dX10_takes_50 rfl (lv_at hl 2 rfl) ?_
          refine lv_iload_n hx hb dX10_takes_51 rfl (lv_at hl 0 rfl) ?_
          refine lv_iconst (v := 3) hx hb dX10_takes_52 (by decide) ?_
          refine lv_isub hx hb dX10_takes_53 ?_
          refine lv_icmp_ne (tgt := 61) hx hb dX10_takes_54 (by decide) (fun c_10 => ?_) (fun c_10 => ?_)
          · skip
            refine lv_iconst (v := 0) hx hb dX10_takes_61 (by decide) ?_
            exact J_12 0 ls (lv_sub hl [0, 1, 2] rfl) (by rw [if_neg c_7, if_neg c_8, if_neg c_9, if_neg c_10])
          · skip
            refine lv_iconst (v := 1) hx hb dX10_takes_57 (by decide) ?_
            refine lv_goto (tgt := 62) hx hb dX10_takes_58 (by decide) ?_
            exact J_12 1 ls (lv_sub hl [0, 1, 2] rfl) (by rw [if_neg c_7, if_neg c_8, if_neg c_9, if_pos c_10])
  · skip
    have c_1 : no = 0 := (nI_eqx (by rfl) (by decide) (by omega) (by omega)).mp c_1
    refine lv_aload_n hx hb dX10_takes_7 rfl (lv_at hl 0 rfl) ?_
    refine h_get (ci := 10) (v := .int (q 1)) (C := RX10) (T := TX10) (N := 26) hx hb hts kl_X10 hown hK hw hm.1 rfl 1 (by decide) (hts _ kf_X10_59) rfl rfl dX10_takes_8 ?_
    rw [show q 1 = nI ns from hN.1]
    have J_15 : ∀ (v_14 : Int32) (ls : Array Slot), lv_has ls 3 [(0, .ref mo), (1, .int x)] → v_14 = (if ns = 0 then 1 else 0) → W p l e R s m args below meth c s.heap [] (0) (0) Q (F0 m 19 ls [.int v_14]) := by
      intro v_14 ls hl ev_14
      have hv : v_14 = bI (mTake KD OP ns no x) := by
        subst ev_14
        unfold mTake
        simp only [bI_if, bI_t, bI_f]
        all_goals rw [if_pos c_1]
      rw [hQ]
      exact h_zret hx hb hr hlk hsz hw (by simp) (by simp) dX10_takes_19 (bI_v hv) ⟨congrArg (fun z => some (Value.int z)) hv, rfl⟩
    refine lv_if_ne (tgt := 18) hx hb dX10_takes_11 (by decide) (fun c_13 => ?_) (fun c_13 => ?_)
    · skip
      have c_13 : ¬ (ns = 0) := (not_congr (nI_eqx (by rfl) (by decide) (by omega) (by omega))).mp c_13
      refine lv_iconst (v := 0) hx hb dX10_takes_18 (by decide) ?_
      exact J_15 0 ls (lv_sub hl [0, 1] rfl) (by rw [if_neg c_13])
    · skip
      have c_13 : ns = 0 := (nI_eqx (by rfl) (by decide) (by omega) (by omega)).mp c_13
      refine lv_iconst (v := 1) hx hb dX10_takes_14 (by decide) ?_
      refine lv_goto (tgt := 19) hx hb dX10_takes_15 (by decide) ?_
      exact J_15 1 ls (lv_sub hl [0, 1] rfl) (by rw [if_pos c_13])

set_option maxHeartbeats 4000000 in
set_option maxRecDepth 100000 in
theorem c_X10_close (l : Launch) (D : va_G) (dT : Nat → ClassId) (ah : hA) (sz : Nat) (mo : Nat) (AR : Nat → Nat) (q : Nat → Int32) (g : Nat → Nat → Int32) (hm : moA dT ah mo AR q g) (ns nu np nr no : Nat) (hN : moN q ns nu np nr no) : hMet l yX10_close cX10_close 1 (some .int) ({ frames := 1, cells := 0, slots := 0, locals := 21 }) D dT [.ref mo] ah sz (fun r ah2 => (no = 0 ∧ r = some (.int 0) ∧ ah2 = hup ah mo (.inr (10, moF (upd q 0 1) AR))) ∨ (¬ no = 0 ∧ r = some (.int (nI (no - 1))) ∧ ah2 = hup ah mo (.inr (10, moF (upd (upd q 0 0) 5 (nI (no - 1))) AR)))) 0 0 := by
  refine h_met (by decide) (Nat.le_of_ble_eq_true rfl) ?_
  intro p e s m below meth c ls R Q args hav hR hQ hB hl hsz hw
  obtain ⟨hx, hb, hml, hr, hts, hown, hlk, hin, hK⟩ := hB
  have hown : s.vm.findClass RX10 = some m.cls := hown
  have hl : lv_has ls 1 [(0, .ref mo)] := hl
  obtain ⟨hn1, hn2, hn3, hn4, hn5⟩ := hN.2.2.2.2.2
  refine lv_aload_n hx hb dX10_close_0 rfl (lv_at hl 0 rfl) ?_
  refine lv_iconst (v := 0) hx hb dX10_close_1 (by decide) ?_
  refine h_put (ci := 10) (v := .int 0) (C := RX10) (T := TX10) (N := 26) hx hb hts kl_X10 tyX10 tyX10_ok nmX10 hown hK hw hm.1 rfl 0 (by decide) (hts _ kf_X10_52) rfl rfl (tyX10_ok 0 (by decide)) rfl rfl (Nat.le_of_ble_eq_true rfl) dX10_close_2 (fun H_1 L_2 hw => ?_)
  obtain ⟨ah_3, eah_3⟩ : ∃ z9 : hA, z9 = hup ah mo (.inr (10, moF (upd q 0 0) AR)) := ⟨_, rfl⟩
  have hw : hW D ah s.heap ah_3 H_1 L_2 := by rw [eah_3, ← mf_0]; exact hw
  have hm_4 : moA dT ah_3 mo AR (upd q 0 0) g := moA_q hm eah_3
  refine lv_aload_n hx hb dX10_close_5 rfl (lv_at hl 0 rfl) ?_
  refine h_get (ci := 10) (v := .int (q 5)) (C := RX10) (T := TX10) (N := 26) hx hb hts kl_X10 hown hK hw hm_4.1 rfl 16 (by decide) (hts _ kf_X10_68) rfl (congrArg (fun z => some (Value.int z)) (show (upd q 0 0) 5 = q 5 from (upd_n (by decide)))) dX10_close_6 ?_
  rw [show q 5 = nI no from hN.2.2.2.2.1]
  refine lv_if_ne (tgt := 18) hx hb dX10_close_9 (by decide) (fun c_5 => ?_) (fun c_5 => ?_)
  · skip
    have c_5 : ¬ (no = 0) := (not_congr (nI_eqx (by rfl) (by decide) (by omega) (by omega))).mp c_5
    refine lv_aload_n hx hb dX10_close_18 rfl (lv_at hl 0 rfl) ?_
    refine lv_dup hx hb dX10_close_19 rfl ?_
    refine h_get (ci := 10) (v := .int (q 5)) (C := RX10) (T := TX10) (N := 26) hx hb hts kl_X10 hown hK hw hm_4.1 rfl 16 (by decide) (hts _ kf_X10_68) rfl (congrArg (fun z => some (Value.int z)) (show (upd q 0 0) 5 = q 5 from (upd_n (by decide)))) dX10_close_20 ?_
    rw [show q 5 = nI no from hN.2.2.2.2.1]
    refine lv_iconst (v := 1) hx hb dX10_close_23 (by decide) ?_
    refine lv_isub hx hb dX10_close_24 ?_
    refine lv_topi (fun t_6 et_6 => ?_)
    obtain rfl : t_6 = nI (no - 1) := et_6.trans (nI_s _ 1 (by omega))
    refine h_put (ci := 10) (v := .int (nI (no - 1))) (C := RX10) (T := TX10) (N := 26) hx hb hts kl_X10 tyX10 tyX10_ok nmX10 hown hK hw hm_4.1 rfl 16 (by decide) (hts _ kf_X10_68) rfl rfl (tyX10_ok 16 (by decide)) rfl rfl (Nat.le_of_ble_eq_true rfl) dX10_close_25 (fun H_7 L_8 hw => ?_)
    obtain ⟨ah_9, eah_9⟩ : ∃ z9 : hA, z9 = hup ah_3 mo (.inr (10, moF (upd (upd q 0 0) 5 (nI (no - 1))) AR)) := ⟨_, rfl⟩
    have hw : hW D ah s.heap ah_9 H_7 L_8 := by rw [eah_9, ← mf_16]; exact hw
    have hm_10 : moA dT ah_9 mo AR (upd (upd q 0 0) 5 (nI (no - 1))) g := moA_q hm_4 eah_9
    refine lv_aload_n hx hb dX10_close_28 rfl (lv_at hl 0 rfl) ?_
    refine h_get (ci := 10) (v := .int (nI (no - 1))) (C := RX10) (T := TX10) (N := 26) hx hb hts kl_X10 hown hK hw hm_10.1 rfl 16 (by decide) (hts _ kf_X10_68) rfl (congrArg (fun z => some (Value.int z)) (show (upd (upd q 0 0) 5 (nI (no - 1))) 5 = nI (no - 1) from upd_e)) dX10_close_29 ?_
    rw [hQ]
    exact h_iret hx hb hr hlk hsz hw (by simp) (by simp) dX10_close_32 (Or.inr ⟨c_5, rfl, (by subst_vars; simp only [hup_hup, upd_s])⟩)
  · skip
    have c_5 : no = 0 := (nI_eqx (by rfl) (by decide) (by omega) (by omega)).mp c_5
    refine lv_aload_n hx hb dX10_close_12 rfl (lv_at hl 0 rfl) ?_
    refine lv_iconst (v := 1) hx hb dX10_close_13 (by decide) ?_
    refine h_callV (n := 1) (ci := 10) (b := mo) (As := [.int 1]) (rest := []) ⟨hx, hb, hml, hown, hts⟩ hK hw (c_X10_fail l D dT ah_3 H_1.size mo AR (upd q 0 0) g hm_4 1) ko_X10_fail km_X10_82 ki_X10_fail ks_X10_fail kn_X10 (by decide +kernel) rfl hm_4.1 rfl hl.1 rfl (by simp [Value.category]) dX10_close_14 (by rw [hR]; exact ⟨rfl, rfl, Nat.le_of_ble_eq_true rfl, Nat.le_of_ble_eq_true rfl, by simp, by simp⟩) (fun r_11 ah_12 H_13 L_14 st_15 hp hw hst => ?_)
    obtain ⟨rfl, eah_12⟩ := hp
    rw [show (upd (upd q 0 0) 0 1) = (upd q 0 1) from upd_s] at eah_12
    have hm_16 : moA dT ah_12 mo AR (upd q 0 1) g := moA_q hm_4 eah_12
    have hst : st_15 = [.int 0] := hst
    subst hst
    rw [hQ]
    exact h_iret hx hb hr hlk hsz hw (by simp) (by simp) dX10_close_17 (Or.inl ⟨c_5, rfl, (by subst_vars; simp only [hup_hup, upd_s])⟩)

set_option maxHeartbeats 4000000 in
set_option maxRecDepth 100000 in
theorem c_X10_place (l : Launch) (D : va_G) (dT : Nat → ClassId) (ah : hA) (sz : Nat) (mo : Nat) (AR : Nat → Nat) (q : Nat → Int32) (g : Nat → Nat → Int32) (hm : moA dT ah mo AR q g) (x : Int32) : hMet l yX10_place cX10_place 2 (some .int) ({ frames := 1, cells := 0, slots := 0, locals := 22 }) D dT [.ref mo, .int x] ah sz (fun r ah2 => (wiB x 0 6 = false ∧ r = some (.int 0) ∧ ah2 = hup ah mo (.inr (10, moF (upd q 0 1) AR))) ∨ (¬ wiB x 0 6 = false ∧ r = some (.int (g 12 x.toNatClampNeg)) ∧ ah2 = hup ah mo (.inr (10, moF (upd q 0 0) AR)))) 0 0 := by
  refine h_met (by decide) (Nat.le_of_ble_eq_true rfl) ?_
  intro p e s m below meth c ls R Q args hav hR hQ hB hl hsz hw
  obtain ⟨hx, hb, hml, hr, hts, hown, hlk, hin, hK⟩ := hB
  have hown : s.vm.findClass RX10 = some m.cls := hown
  have hl : lv_has ls 2 [(0, .ref mo), (1, .int x)] := hl
  refine lv_aload_n hx hb dX10_place_0 rfl (lv_at hl 0 rfl) ?_
  refine lv_iconst (v := 0) hx hb dX10_place_1 (by decide) ?_
  refine h_put (ci := 10) (v := .int 0) (C := RX10) (T := TX10) (N := 26) hx hb hts kl_X10 tyX10 tyX10_ok nmX10 hown hK hw hm.1 rfl 0 (by decide) (hts _ kf_X10_52) rfl rfl (tyX10_ok 0 (by decide)) rfl rfl (Nat.le_of_ble_eq_true rfl) dX10_place_2 (fun H_1 L_2 hw => ?_)
  obtain ⟨ah_3, eah_3⟩ : ∃ z9 : hA, z9 = hup ah mo (.inr (10, moF (upd q 0 0) AR)) := ⟨_, rfl⟩
  have hw : hW D ah s.heap ah_3 H_1 L_2 := by rw [eah_3, ← mf_0]; exact hw
  have hm_4 : moA dT ah_3 mo AR (upd q 0 0) g := moA_q hm eah_3
  refine lv_iload_n hx hb dX10_place_5 rfl (lv_at hl 1 rfl) ?_
  refine lv_iconst (v := 0) hx hb dX10_place_6 (by decide) ?_
  refine lv_bipush (v := 6) hx hb dX10_place_7 (by decide) ?_
  refine h_callS (n := 3) (As := [.int x, .int 0, .int 6]) (rest := []) ⟨hx, hb, hml, hown, hts⟩ hK hw (c_X10_within l D dT ah_3 H_1.size x 0 6) ko_X10_within km_X10_78 kt_X10_within kn_X10 (by decide +kernel) rfl hl.1 rfl (by simp [Value.category]) dX10_place_9 (by rw [hR]; exact ⟨rfl, rfl, Nat.le_of_ble_eq_true rfl, Nat.le_of_ble_eq_true rfl, by simp, by simp⟩) (fun r_5 ah_6 H_7 L_8 st_9 hp hw hst => ?_)
  obtain ⟨rfl, rfl⟩ := hp
  have hst : st_9 = [.int (bI (wiB x 0 6))] := hst
  subst hst
  refine lv_if_eq (tgt := 24) hx hb dX10_place_12 (by decide) (fun c_10 => ?_) (fun c_10 => ?_)
  · skip
    have c_10 : wiB x 0 6 = false := bI_0.mp c_10
    refine lv_aload_n hx hb dX10_place_24 rfl (lv_at hl 0 rfl) ?_
    refine lv_iconst (v := 1) hx hb dX10_place_25 (by decide) ?_
    refine h_callV (n := 1) (ci := 10) (b := mo) (As := [.int 1]) (rest := []) ⟨hx, hb, hml, hown, hts⟩ hK hw (c_X10_fail l D dT ah_3 H_7.size mo AR (upd q 0 0) g hm_4 1) ko_X10_fail km_X10_82 ki_X10_fail ks_X10_fail kn_X10 (by decide +kernel) rfl hm_4.1 rfl hl.1 rfl (by simp [Value.category]) dX10_place_26 (by rw [hR]; exact ⟨rfl, rfl, Nat.le_of_ble_eq_true rfl, Nat.le_of_ble_eq_true rfl, by simp, by simp⟩) (fun r_11 ah_12 H_13 L_14 st_15 hp hw hst => ?_)
    obtain ⟨rfl, eah_12⟩ := hp
    rw [show (upd (upd q 0 0) 0 1) = (upd q 0 1) from upd_s] at eah_12
    have hm_16 : moA dT ah_12 mo AR (upd q 0 1) g := moA_q hm_4 eah_12
    have hst : st_15 = [.int 0] := hst
    subst hst
    rw [hQ]
    exact h_iret hx hb hr hlk hsz hw (by simp) (by simp) dX10_place_29 (Or.inl ⟨c_10, rfl, (by subst_vars; simp only [hup_hup, upd_s])⟩)
  · skip
    have c_10 : ¬ (wiB x 0 6 = false) := (not_congr bI_0).mp c_10
    have hlo := wiB_l c_10
    have hhi := wiB_6 c_10
    refine lv_aload_n hx hb dX10_place_15 rfl (lv_at hl 0 rfl) ?_
    refine h_get (ci := 10) (v := .ref (AR 12)) (C := RX10) (T := TX10) (N := 26) hx hb hts kl_X10 hown hK hw hm_4.1 rfl 18 (by decide) (hts _ kf_X10_46) rfl rfl dX10_place_16 ?_
    refine lv_iload_n hx hb dX10_place_19 rfl (lv_at hl 1 rfl) ?_
    refine h_iald hx hb hK hw (moA_a (n := 7) (f := g 12) hm_4 12 (by decide) rfl rfl) x.toNatClampNeg (nI_cl hlo) (nI_cll hlo hhi (by decide)) (by omega) dX10_place_20 ?_
    refine lv_goto (tgt := 29) hx hb dX10_place_21 (by decide) ?_
    rw [hQ]
    exact h_iret hx hb hr hlk hsz hw (by simp) (by simp) dX10_place_29 (Or.inr ⟨c_10, rfl, (by subst_vars; simp only [hup_hup, upd_s])⟩)

set_option maxHeartbeats 4000000 in
set_option maxRecDepth 100000 in
theorem c_X10_ring (l : Launch) (D : va_G) (dT : Nat → ClassId) (ah : hA) (sz : Nat) (mo : Nat) (AR : Nat → Nat) (q : Nat → Int32) (g : Nat → Nat → Int32) (hm : moA dT ah mo AR q g) (ns nu np nr no : Nat) (hN : moN q ns nu np nr no) (FG RC PF PC : Nat → Nat) (KD WH PA : Nat → Int32) (hS : moS ns np nr g FG RC PF PC KD WH PA) (OP : Nat → Nat) (hOQ : ∀ j, j < no → g 11 j = nI (OP j) ∧ OP j < ns) : hMet l yX10_ring cX10_ring 1 none ({ frames := 1, cells := 0, slots := 0, locals := 20 }) D dT [.ref mo] ah sz (fun r ah2 => ((no = 0 ∨ ¬ KD (OP (no - 1)) = 3) ∧ r = none ∧ ah2 = hup ah mo (.inr (10, moF (upd q 0 1) AR))) ∨ ((¬ no = 0 ∧ KD (OP (no - 1)) = 3) ∧ 4096 < nu + 1 ∧ r = none ∧ ah2 = hup ah mo (.inr (10, moF (upd q 0 2) AR))) ∨ ((¬ no = 0 ∧ KD (OP (no - 1)) = 3) ∧ nu + 1 ≤ 4096 ∧ r = none ∧ ∃ q2 g2, moA dT ah2 mo AR q2 g2 ∧ moN q2 ns (nu + 1) np (nr + 1) no ∧ q2 0 = 0 ∧ g2 7 = upd (g 7) nr (nI np) ∧ g2 8 = upd (g 8) nr 0 ∧ g2 6 = upd (g 6) (OP (no - 1)) (nI (RC (OP (no - 1)) + 1)) ∧ (∀ k, k < 14 → ¬ k = 6 → ¬ k = 7 → ¬ k = 8 → g2 k = g k) ∧ moFr ah ah2 mo AR)) 0 0 := by
  refine h_met (by decide) (Nat.le_of_ble_eq_true rfl) ?_
  intro p e s m below meth c ls R Q args hav hR hQ hB hl hsz hw
  obtain ⟨hx, hb, hml, hr, hts, hown, hlk, hin, hK⟩ := hB
  have hown : s.vm.findClass RX10 = some m.cls := hown
  have hl : lv_has ls 1 [(0, .ref mo)] := hl
  have hns9 := hS.1
  obtain ⟨hn1, hn2, hn3, hn4, hn5⟩ := hN.2.2.2.2.2
  have hO1 : 0 < no → OP (no - 1) < ns := fun h9 => (hOQ _ (by omega)).2
  refine lv_aload_n hx hb dX10_ring_0 rfl (lv_at hl 0 rfl) ?_
  refine lv_iconst (v := 0) hx hb dX10_ring_1 (by decide) ?_
  refine h_put (ci := 10) (v := .int 0) (C := RX10) (T := TX10) (N := 26) hx hb hts kl_X10 tyX10 tyX10_ok nmX10 hown hK hw hm.1 rfl 0 (by decide) (hts _ kf_X10_52) rfl rfl (tyX10_ok 0 (by decide)) rfl rfl (Nat.le_of_ble_eq_true rfl) dX10_ring_2 (fun H_1 L_2 hw => ?_)
  obtain ⟨ah_3, eah_3⟩ : ∃ z9 : hA, z9 = hup ah mo (.inr (10, moF (upd q 0 0) AR)) := ⟨_, rfl⟩
  have hw : hW D ah s.heap ah_3 H_1 L_2 := by rw [eah_3, ← mf_0]; exact hw
  have hm_4 : moA dT ah_3 mo AR (upd q 0 0) g := moA_q hm eah_3
  refine lv_aload_n hx hb dX10_ring_5 rfl (lv_at hl 0 rfl) ?_
  refine h_get (ci := 10) (v := .int (q 5)) (C := RX10) (T := TX10) (N := 26) hx hb hts kl_X10 hown hK hw hm_4.1 rfl 16 (by decide) (hts _ kf_X10_68) rfl (congrArg (fun z => some (Value.int z)) (show (upd q 0 0) 5 = q 5 from (upd_n (by decide)))) dX10_ring_6 ?_
  rw [show q 5 = nI no from hN.2.2.2.2.1]
  refine lv_if_eq (tgt := 25) hx hb dX10_ring_9 (by decide) (fun c_5 => ?_) (fun c_5 => ?_)
  · skip
    have c_5 : no = 0 := (nI_eqx (by rfl) (by decide) (by omega) (by omega)).mp c_5
    refine lv_aload_n hx hb dX10_ring_25 rfl (lv_at hl 0 rfl) ?_
    refine lv_iconst (v := 1) hx hb dX10_ring_26 (by decide) ?_
    refine h_put (ci := 10) (v := .int 1) (C := RX10) (T := TX10) (N := 26) hx hb hts kl_X10 tyX10 tyX10_ok nmX10 hown hK hw hm_4.1 rfl 0 (by decide) (hts _ kf_X10_52) rfl rfl (tyX10_ok 0 (by decide)) rfl rfl (Nat.le_of_ble_eq_true rfl) dX10_ring_27 (fun H_6 L_7 hw => ?_)
    obtain ⟨ah_8, eah_8⟩ : ∃ z9 : hA, z9 = hup ah_3 mo (.inr (10, moF (upd q 0 1) AR)) := ⟨_, rfl⟩
    have hw : hW D ah s.heap ah_8 H_6 L_7 := by rw [eah_8, ← show (upd (upd q 0 0) 0 1) = (upd q 0 1) from upd_s, ← mf_0]; exact hw
    have hm_9 : moA dT ah_8 mo AR (upd q 0 1) g := moA_q hm_4 eah_8
    refine lv_goto (tgt := 109) hx hb dX10_ring_30 (by decide) ?_
    rw [hQ]
    exact h_vret hx hb hr hlk hsz hw (by simp) (by simp) dX10_ring_109 (Or.inl ⟨Or.inl c_5, rfl, (by subst_vars; simp only [hup_hup, upd_s])⟩)
  · skip
    have c_5 : ¬ (no = 0) := (not_congr (nI_eqx (by rfl) (by decide) (by omega) (by omega))).mp c_5
    refine lv_aload_n hx hb dX10_ring_12 rfl (lv_at hl 0 rfl) ?_
    refine h_get (ci := 10) (v := .ref (AR 0)) (C := RX10) (T := TX10) (N := 26) hx hb hts kl_X10 hown hK hw hm_4.1 rfl 5 (by decide) (hts _ kf_X10_7) rfl rfl dX10_ring_13 ?_
    have hO1 := hO1 (by omega)
    have hFR := (hS.2 (OP (no - 1)) hO1).2.2.2.2.2.2.2.2
    refine lv_aload_n hx hb dX10_ring_16 rfl (lv_at hl 0 rfl) ?_
    refine h_callV (n := 0) (ci := 10) (b := mo) (As := []) (rest := [.ref (AR 0)]) ⟨hx, hb, hml, hown, hts⟩ hK hw (c_X10_top l D dT ah_3 H_1.size mo AR (upd q 0 0) g hm_4 OP no ⟨((show (upd q 0 0) 5 = q 5 from (upd_n (by decide))).trans hN.2.2.2.2.1), hN.2.2.2.2.2.2.2.2.1, fun j hj => (hOQ j hj).1⟩) ko_X10_top km_X10_74 ki_X10_top ks_X10_top kn_X10 (by decide +kernel) rfl hm_4.1 rfl hl.1 rfl (by simp [Value.category]) dX10_ring_17 (by rw [hR]; exact ⟨rfl, rfl, Nat.le_of_ble_eq_true rfl, Nat.le_of_ble_eq_true rfl, by simp, by simp⟩) (fun r_10 ah_11 H_12 L_13 st_14 hp hw hst => ?_)
    obtain ⟨rfl, rfl⟩ := hp
    rw [topI_p (by omega)] at hst
    have hst : st_14 = [.int (nI (OP (no - 1))), .ref (AR 0)] := hst
    subst hst
    refine h_iald hx hb hK hw (moA_a (n := 2048) (f := g 0) hm_4 0 (by decide) rfl rfl) (OP (no - 1)) rfl (by omega) (by omega) dX10_ring_20 ?_
    rw [show (g 0) (OP (no - 1)) = KD (OP (no - 1)) from (hS.2 _ (by omega)).1]
    refine lv_iconst (v := 3) hx hb dX10_ring_21 (by decide) ?_
    refine lv_icmp_eq (tgt := 33) hx hb dX10_ring_22 (by decide) (fun c_15 => ?_) (fun c_15 => ?_)
    · skip
      refine lv_aload_n hx hb dX10_ring_33 rfl (lv_at hl 0 rfl) ?_
      refine h_get (ci := 10) (v := .int (q 2)) (C := RX10) (T := TX10) (N := 26) hx hb hts kl_X10 hown hK hw hm_4.1 rfl 2 (by decide) (hts _ kf_X10_56) rfl (congrArg (fun z => some (Value.int z)) (show (upd q 0 0) 2 = q 2 from (upd_n (by decide)))) dX10_ring_34 ?_
      rw [show q 2 = nI nu from hN.2.1]
      refine lv_iconst (v := 1) hx hb dX10_ring_37 (by decide) ?_
      refine lv_iadd hx hb dX10_ring_38 ?_
      refine lv_topi (fun t_16 et_16 => ?_)
      obtain rfl : t_16 = nI (nu + 1) := et_16.trans (nI_c _ 1)
      refine lv_sipush (v := 4096) hx hb dX10_ring_39 (by decide) ?_
      refine lv_icmp_le (tgt := 53) hx hb dX10_ring_42 (by decide) (fun c_17 => ?_) (fun c_17 => ?_)
      · skip
        have c_17 : nu + 1 ≤ 4096 := (nI_lex (by rfl) (by decide) (by omega) (by omega)).mp c_17
        refine lv_aload_n hx hb dX10_ring_53 rfl (lv_at hl 0 rfl) ?_
        refine lv_dup hx hb dX10_ring_54 rfl ?_
        refine h_get (ci := 10) (v := .int (q 2)) (C := RX10) (T := TX10) (N := 26) hx hb hts kl_X10 hown hK hw hm_4.1 rfl 2 (by decide) (hts _ kf_X10_56) rfl (congrArg (fun z => some (Value.int z)) (show (upd q 0 0) 2 = q 2 from (upd_n (by decide)))) dX10_ring_55 ?_
        rw [show q 2 = nI nu from hN.2.1]
        refine lv_iconst (v := 1) hx hb dX10_ring_58 (by decide) ?_
        refine lv_iadd hx hb dX10_ring_59 ?_
        refine lv_topi (fun t_18 et_18 => ?_)
        obtain rfl : t_18 = nI (nu + 1) := et_18.trans (nI_c _ 1)
        refine h_put (ci := 10) (v := .int (nI (nu + 1))) (C := RX10) (T := TX10) (N := 26) hx hb hts kl_X10 tyX10 tyX10_ok nmX10 hown hK hw hm_4.1 rfl 2 (by decide) (hts _ kf_X10_56) rfl rfl (tyX10_ok 2 (by decide)) rfl rfl (Nat.le_of_ble_eq_true rfl) dX10_ring_60 (fun H_19 L_20 hw => ?_)
        obtain ⟨ah_21, eah_21⟩ : ∃ z9 : hA, z9 = hup ah_3 mo (.inr (10, moF (upd (upd q 0 0) 2 (nI (nu + 1))) AR)) := ⟨_, rfl⟩
        have hw : hW D ah s.heap ah_21 H_19 L_20 := by rw [eah_21, ← mf_2]; exact hw
        have hm_22 : moA dT ah_21 mo AR (upd (upd q 0 0) 2 (nI (nu + 1))) g := moA_q hm_4 eah_21
        refine lv_aload_n hx hb dX10_ring_63 rfl (lv_at hl 0 rfl) ?_
        refine h_get (ci := 10) (v := .ref (AR 7)) (C := RX10) (T := TX10) (N := 26) hx hb hts kl_X10 hown hK hw hm_22.1 rfl 12 (by decide) (hts _ kf_X10_31) rfl rfl dX10_ring_64 ?_
        refine lv_aload_n hx hb dX10_ring_67 rfl (lv_at hl 0 rfl) ?_
        refine h_get (ci := 10) (v := .int (q 4)) (C := RX10) (T := TX10) (N := 26) hx hb hts kl_X10 hown hK hw hm_22.1 rfl 4 (by decide) (hts _ kf_X10_65) rfl (congrArg (fun z => some (Value.int z)) (show (upd (upd q 0 0) 2 (nI (nu + 1))) 4 = q 4 from ((upd_n (by decide)).trans (upd_n (by decide))))) dX10_ring_68 ?_
        rw [show q 4 = nI nr from hN.2.2.2.1]
        refine lv_aload_n hx hb dX10_ring_71 rfl (lv_at hl 0 rfl) ?_
        refine h_get (ci := 10) (v := .int (q 3)) (C := RX10) (T := TX10) (N := 26) hx hb hts kl_X10 hown hK hw hm_22.1 rfl 3 (by decide) (hts _ kf_X10_62) rfl (congrArg (fun z => some (Value.int z)) (show (upd (upd q 0 0) 2 (nI (nu + 1))) 3 = q 3 from ((upd_n (by decide)).trans (upd_n (by decide))))) dX10_ring_72 ?_
        rw [show q 3 = nI np from hN.2.2.1]
        refine h_iast hx hb hK hw (moA_a (n := 4096) (f := g 7) hm_22 7 (by decide) rfl rfl) nr rfl (by omega) (by omega) dX10_ring_75 (fun H_23 L_24 hw => ?_)
        obtain ⟨ah_25, eah_25⟩ : ∃ z9 : hA, z9 = hup ah_21 (AR 7) (.inl (dT 0, 4096, .inl (upd (g 7) nr (nI np)))) := ⟨_, rfl⟩
        have hw : hW D ah s.heap ah_25 H_23 L_24 := by rw [eah_25]; exact hw
        have hm_26 : moA dT ah_25 mo AR (upd (upd q 0 0) 2 (nI (nu + 1))) (va_up g 7 (upd (g 7) nr (nI np))) := moA_g hm_22 7 (by decide) eah_25
        refine lv_aload_n hx hb dX10_ring_76 rfl (lv_at hl 0 rfl) ?_
        refine h_get (ci := 10) (v := .ref (AR 8)) (C := RX10) (T := TX10) (N := 26) hx hb hts kl_X10 hown hK hw hm_26.1 rfl 13 (by decide) (hts _ kf_X10_34) rfl rfl dX10_ring_77 ?_
        refine lv_aload_n hx hb dX10_ring_80 rfl (lv_at hl 0 rfl) ?_
        refine h_get (ci := 10) (v := .int (q 4)) (C := RX10) (T := TX10) (N := 26) hx hb hts kl_X10 hown hK hw hm_26.1 rfl 4 (by decide) (hts _ kf_X10_65) rfl (congrArg (fun z => some (Value.int z)) (show (upd (upd q 0 0) 2 (nI (nu + 1))) 4 = q 4 from ((upd_n (by decide)).trans (upd_n (by decide))))) dX10_ring_81 ?_
        rw [show q 4 = nI nr from hN.2.2.2.1]
        refine lv_iconst (v := 0) hx hb dX10_ring_84 (by decide) ?_
        refine h_iast hx hb hK hw (moA_a (n := 4096) (f := g 8) hm_26 8 (by decide) rfl rfl) nr rfl (by omega) (by omega) dX10_ring_85 (fun H_27 L_28 hw => ?_)
        obtain ⟨ah_29, eah_29⟩ : ∃ z9 : hA, z9 = hup ah_25 (AR 8) (.inl (dT 0, 4096, .inl (upd (g 8) nr 0))) := ⟨_, rfl⟩
        have hw : hW D ah s.heap ah_29 H_27 L_28 := by rw [eah_29]; exact hw
        have hm_30 : moA dT ah_29 mo AR (upd (upd q 0 0) 2 (nI (nu + 1))) (va_up (va_up g 7 (upd (g 7) nr (nI np))) 8 (upd (g 8) nr 0)) := moA_g hm_26 8 (by decide) eah_29
        refine lv_aload_n hx hb dX10_ring_86 rfl (lv_at hl 0 rfl) ?_
        refine lv_dup hx hb dX10_ring_87 rfl ?_
        refine h_get (ci := 10) (v := .int (q 4)) (C := RX10) (T := TX10) (N := 26) hx hb hts kl_X10 hown hK hw hm_30.1 rfl 4 (by decide) (hts _ kf_X10_65) rfl (congrArg (fun z => some (Value.int z)) (show (upd (upd q 0 0) 2 (nI (nu + 1))) 4 = q 4 from ((upd_n (by decide)).trans (upd_n (by decide))))) dX10_ring_88 ?_
        rw [show q 4 = nI nr from hN.2.2.2.1]
        refine lv_iconst (v := 1) hx hb dX10_ring_91 (by decide) ?_
        refine lv_iadd hx hb dX10_ring_92 ?_
        refine lv_topi (fun t_31 et_31 => ?_)
        obtain rfl : t_31 = nI (nr + 1) := et_31.trans (nI_c _ 1)
        refine h_put (ci := 10) (v := .int (nI (nr + 1))) (C := RX10) (T := TX10) (N := 26) hx hb hts kl_X10 tyX10 tyX10_ok nmX10 hown hK hw hm_30.1 rfl 4 (by decide) (hts _ kf_X10_65) rfl rfl (tyX10_ok 4 (by decide)) rfl rfl (Nat.le_of_ble_eq_true rfl) dX10_ring_93 (fun H_32 L_33 hw => ?_)
        obtain ⟨ah_34, eah_34⟩ : ∃ z9 : hA, z9 = hup ah_29 mo (.inr (10, moF (upd (upd (upd q 0 0) 2 (nI (nu + 1))) 4 (nI (nr + 1))) AR)) := ⟨_, rfl⟩
        have hw : hW D ah s.heap ah_34 H_32 L_33 := by rw [eah_34, ← mf_4]; exact hw
        have hm_35 : moA dT ah_34 mo AR (upd (upd (upd q 0 0) 2 (nI (nu + 1))) 4 (nI (nr + 1))) (va_up (va_up g 7 (upd (g 7) nr (nI np))) 8 (upd (g 8) nr 0)) := moA_q hm_30 eah_34
        refine lv_aload_n hx hb dX10_ring_96 rfl (lv_at hl 0 rfl) ?_
        refine h_get (ci := 10) (v := .ref (AR 6)) (C := RX10) (T := TX10) (N := 26) hx hb hts kl_X10 hown hK hw hm_35.1 rfl 11 (by decide) (hts _ kf_X10_28) rfl rfl dX10_ring_97 ?_
        refine lv_aload_n hx hb dX10_ring_100 rfl (lv_at hl 0 rfl) ?_
        refine h_callV (n := 0) (ci := 10) (b := mo) (As := []) (rest := [.ref (AR 6)]) ⟨hx, hb, hml, hown, hts⟩ hK hw (c_X10_top l D dT ah_34 H_32.size mo AR (upd (upd (upd q 0 0) 2 (nI (nu + 1))) 4 (nI (nr + 1))) (va_up (va_up g 7 (upd (g 7) nr (nI np))) 8 (upd (g 8) nr 0)) hm_35 OP no ⟨((show (upd (upd (upd q 0 0) 2 (nI (nu + 1))) 4 (nI (nr + 1))) 5 = q 5 from ((upd_n (by decide)).trans ((upd_n (by decide)).trans (upd_n (by decide))))).trans hN.2.2.2.2.1), hN.2.2.2.2.2.2.2.2.1, fun j hj => (hOQ j hj).1⟩) ko_X10_top km_X10_74 ki_X10_top ks_X10_top kn_X10 (by decide +kernel) rfl hm_35.1 rfl hl.1 rfl (by simp [Value.category]) dX10_ring_101 (by rw [hR]; exact ⟨rfl, rfl, Nat.le_of_ble_eq_true rfl, Nat.le_of_ble_eq_true rfl, by simp, by simp⟩) (fun r_36 ah_37 H_38 L_39 st_40 hp hw hst => ?_)
        obtain ⟨rfl, rfl⟩ := hp
        rw [topI_p (by omega)] at hst
        have hst : st_40 = [.int (nI (OP (no - 1))), .ref (AR 6)] := hst
        subst hst
        refine lv_dup2_11 hx hb dX10_ring_104 rfl rfl ?_
        refine h_iald hx hb hK hw (moA_a (n := 2048) (f := g 6) hm_35 6 (by decide) rfl rfl) (OP (no - 1)) rfl (by omega) (by omega) dX10_ring_105 ?_
        rw [show (g 6) (OP (no - 1)) = nI (RC (OP (no - 1))) from (hS.2 _ (by omega)).2.2.2.2.2.2.1]
        refine lv_iconst (v := 1) hx hb dX10_ring_106 (by decide) ?_
        refine lv_iadd hx hb dX10_ring_107 ?_
        refine lv_topi (fun t_41 et_41 => ?_)
        obtain rfl : t_41 = nI (RC (OP (no - 1)) + 1) := et_41.trans (nI_c _ 1)
        refine h_iast hx hb hK hw (moA_a (n := 2048) (f := g 6) hm_35 6 (by decide) rfl rfl) (OP (no - 1)) rfl (by omega) (by omega) dX10_ring_108 (fun H_42 L_43 hw => ?_)
        obtain ⟨ah_44, eah_44⟩ : ∃ z9 : hA, z9 = hup ah_34 (AR 6) (.inl (dT 0, 2048, .inl (upd (g 6) (OP (no - 1)) (nI (RC (OP (no - 1)) + 1))))) := ⟨_, rfl⟩
        have hw : hW D ah s.heap ah_44 H_42 L_43 := by rw [eah_44]; exact hw
        have hm_45 : moA dT ah_44 mo AR (upd (upd (upd q 0 0) 2 (nI (nu + 1))) 4 (nI (nr + 1))) (va_up (va_up (va_up g 7 (upd (g 7) nr (nI np))) 8 (upd (g 8) nr 0)) 6 (upd (g 6) (OP (no - 1)) (nI (RC (OP (no - 1)) + 1)))) := moA_g hm_35 6 (by decide) eah_44
        rw [hQ]
        exact h_vret hx hb hr hlk hsz hw (by simp) (by simp) dX10_ring_109 (Or.inr (Or.inr ⟨⟨c_5, c_15⟩, by omega, rfl, (upd (upd (upd q 0 0) 2 (nI (nu + 1))) 4 (nI (nr + 1))), (va_up (va_up (va_up g 7 (upd (g 7) nr (nI np))) 8 (upd (g 8) nr 0)) 6 (upd (g 6) (OP (no - 1)) (nI (RC (OP (no - 1)) + 1)))), hm_45, ⟨((show (upd (upd (upd q 0 0) 2 (nI (nu + 1))) 4 (nI (nr + 1))) 1 = q 1 from ((upd_n (by decide)).trans ((upd_n (by decide)).trans (upd_n (by decide))))).trans hN.1), (show (upd (upd (upd q 0 0) 2 (nI (nu + 1))) 4 (nI (nr + 1))) 2 = nI (nu + 1) from ((upd_n (by decide)).trans upd_e)), ((show (upd (upd (upd q 0 0) 2 (nI (nu + 1))) 4 (nI (nr + 1))) 3 = q 3 from ((upd_n (by decide)).trans ((upd_n (by decide)).trans (upd_n (by decide))))).trans hN.2.2.1), (show (upd (upd (upd q 0 0) 2 (nI (nu + 1))) 4 (nI (nr + 1))) 4 = nI (nr + 1) from upd_e), ((show (upd (upd (upd q 0 0) 2 (nI (nu + 1))) 4 (nI (nr + 1))) 5 = q 5 from ((upd_n (by decide)).trans ((upd_n (by decide)).trans (upd_n (by decide))))).trans hN.2.2.2.2.1), by omega⟩, (show (upd (upd (upd q 0 0) 2 (nI (nu + 1))) 4 (nI (nr + 1))) 0 = 0 from ((upd_n (by decide)).trans ((upd_n (by decide)).trans upd_e))), rfl, rfl, rfl, (fun k hk h6 h7 h8 => by simp only [va_up, if_neg h6, if_neg h7, if_neg h8]), (fun a e9 h1 h2 h3 => by rw [eah_44, hup_n (h3 6 (by decide)), eah_34, hup_n h2, eah_29, hup_n (h3 8 (by decide)), eah_25, hup_n (h3 7 (by decide)), eah_21, hup_n h2, eah_3, hup_n h2]; exact h1)⟩))
      · skip
        have c_17 : ¬ (nu + 1 ≤ 4096) := (not_congr (nI_lex (by rfl) (by decide) (by omega) (by omega))).mp c_17
        refine lv_aload_n hx hb dX10_ring_45 rfl (lv_at hl 0 rfl) ?_
        refine lv_iconst (v := 2) hx hb dX10_ring_46 (by decide) ?_
        refine h_put (ci := 10) (v := .int 2) (C := RX10) (T := TX10) (N := 26) hx hb hts kl_X10 tyX10 tyX10_ok nmX10 hown hK hw hm_4.1 rfl 0 (by decide) (hts _ kf_X10_52) rfl rfl (tyX10_ok 0 (by decide)) rfl rfl (Nat.le_of_ble_eq_true rfl) dX10_ring_47 (fun H_46 L_47 hw => ?_)
        obtain ⟨ah_48, eah_48⟩ : ∃ z9 : hA, z9 = hup ah_3 mo (.inr (10, moF (upd q 0 2) AR)) := ⟨_, rfl⟩
        have hw : hW D ah s.heap ah_48 H_46 L_47 := by rw [eah_48, ← show (upd (upd q 0 0) 0 2) = (upd q 0 2) from upd_s, ← mf_0]; exact hw
        have hm_49 : moA dT ah_48 mo AR (upd q 0 2) g := moA_q hm_4 eah_48
        refine lv_goto (tgt := 109) hx hb dX10_ring_50 (by decide) ?_
        rw [hQ]
        exact h_vret hx hb hr hlk hsz hw (by simp) (by simp) dX10_ring_109 (Or.inr (Or.inl ⟨⟨c_5, c_15⟩, by omega, rfl, (by subst_vars; simp only [hup_hup, upd_s])⟩))
    · skip
      refine lv_aload_n hx hb dX10_ring_25 rfl (lv_at hl 0 rfl) ?_
      refine lv_iconst (v := 1) hx hb dX10_ring_26 (by decide) ?_
      refine h_put (ci := 10) (v := .int 1) (C := RX10) (T := TX10) (N := 26) hx hb hts kl_X10 tyX10 tyX10_ok nmX10 hown hK hw hm_4.1 rfl 0 (by decide) (hts _ kf_X10_52) rfl rfl (tyX10_ok 0 (by decide)) rfl rfl (Nat.le_of_ble_eq_true rfl) dX10_ring_27 (fun H_50 L_51 hw => ?_)
      obtain ⟨ah_52, eah_52⟩ : ∃ z9 : hA, z9 = hup ah_3 mo (.inr (10, moF (upd q 0 1) AR)) := ⟨_, rfl⟩
      have hw : hW D ah s.heap ah_52 H_50 L_51 := by rw [eah_52, ← show (upd (upd q 0 0) 0 1) = (upd q 0 1) from upd_s, ← mf_0]; exact hw
      have hm_53 : moA dT ah_52 mo AR (upd q 0 1) g := moA_q hm_4 eah_52
      refine lv_goto (tgt := 109) hx hb dX10_ring_30 (by decide) ?_
      rw [hQ]
      exact h_vret hx hb hr hlk hsz hw (by simp) (by simp) dX10_ring_109 (Or.inl ⟨Or.inr c_15, rfl, (by subst_vars; simp only [hup_hup, upd_s])⟩)

/-! ShapeJudgeModel: made -/
def mkA (dT : Nat → ClassId) (ah0 ah : hA) (mo n : Nat) (AR : Nat → Nat) (G : Nat → Nat → Int32) : Prop :=
  (∀ k, k < n → ah (AR k) = some (.inl (dT 0, LN k, .inl (G k))) ∧ ah0 (AR k) = none) ∧ (∀ i j, i < n → j < n → AR i = AR j → i = j) ∧ ∀ a e, ah0 a = some e → a ≠ mo → ah a = some e
theorem mkA_0 {dT : Nat → ClassId} {ah : hA} {mo : Nat} {AR : Nat → Nat} {G : Nat → Nat → Int32} : mkA dT ah ah mo 0 AR G := ⟨fun k hk => absurd hk (Nat.not_lt_zero _), fun i _ hi => absurd hi (Nat.not_lt_zero _), fun _ _ h _ => h⟩
theorem mkA_n {dT : Nat → ClassId} {ah0 ah ah2 : hA} {mo n q ci : Nat} {AR : Nat → Nat} {G : Nat → Nat → Int32} {fs : List Value} {e : va_E} (h : mkA dT ah0 ah mo n AR G) (hm : ah mo = some (.inr (ci, fs))) (hq : ah q = none) (e2 : ah2 = hup ah q e) : mkA dT ah0 ah2 mo n AR G ∧ (∀ i, i < n → AR i ≠ q) ∧ ah0 q = none := by
  refine ⟨⟨fun k hk => ⟨by rw [e2, hup_n (h_fr (h.1 k hk).1 hq)]; exact (h.1 k hk).1, (h.1 k hk).2⟩, h.2.1, fun a x ha hm => by rw [e2, hup_n (h_fr (h.2.2 a x ha hm) hq)]; exact h.2.2 a x ha hm⟩, fun i hi => h_fr (h.1 i hi).1 hq, ?_⟩
  cases h9 : ah0 q with
  | none => rfl
  | some x => exact absurd ((h.2.2 q x h9 (fun h8 => by rw [h8, hm] at hq; cases hq)).symm.trans hq) (by simp)
theorem mkA_w {dT : Nat → ClassId} {ah0 ah ah2 : hA} {mo n q : Nat} {AR : Nat → Nat} {G : Nat → Nat → Int32} {e : va_E} (h : mkA dT ah0 ah mo n AR G) (hq : (∀ i, i < n → AR i ≠ q) ∧ ah0 q = none) (e2 : ah2 = hup ah q e) : mkA dT ah0 ah2 mo n AR G :=
  ⟨fun k hk => ⟨by rw [e2, hup_n (hq.1 k hk)]; exact (h.1 k hk).1, (h.1 k hk).2⟩, h.2.1, fun a x ha hm => by rw [e2, hup_n (h_fr ha hq.2)]; exact h.2.2 a x ha hm⟩
theorem mkA_s {dT : Nat → ClassId} {ah0 ah : hA} {mo n q : Nat} {AR : Nat → Nat} {G : Nat → Nat → Int32} {F : Nat → Int32} (h : mkA dT ah0 ah mo n AR G) (hq : ah q = some (.inl (dT 0, LN n, .inl F))) (hn : (∀ i, i < n → AR i ≠ q) ∧ ah0 q = none) : mkA dT ah0 ah mo (n + 1) (va_up AR n q) (va_up G n F) := by
  refine ⟨fun k hk => ?_, fun i j hi hj hij => ?_, h.2.2⟩
  · by_cases e : k = n
    · subst e; simp only [va_up, if_true]; exact ⟨hq, hn.2⟩
    · simp only [va_up, if_neg e]; exact h.1 k (by omega)
  · by_cases e1 : i = n <;> by_cases e2 : j = n
    · omega
    · subst e1; simp only [va_up, if_true, if_neg e2] at hij; exact absurd hij.symm (hn.1 j (by omega))
    · subst e2; simp only [va_up, if_true, if_neg e1] at hij; exact absurd hij (hn.1 i (by omega))
    · simp only [va_up, if_neg e1, if_neg e2] at hij; exact h.2.1 i j (by omega) (by omega) hij
theorem mkA_o {dT : Nat → ClassId} {ah0 ah ah2 : hA} {mo n ci : Nat} {AR : Nat → Nat} {G : Nat → Nat → Int32} {fs : List Value} {e : va_E} (h : mkA dT ah0 ah mo n AR G) (hm : ah mo = some (.inr (ci, fs))) (e2 : ah2 = hup ah mo e) : mkA dT ah0 ah2 mo n AR G :=
  ⟨fun k hk => ⟨by rw [e2, hup_n (h_ne (h.1 k hk).1 hm (by simp))]; exact (h.1 k hk).1, (h.1 k hk).2⟩, h.2.1, fun a x ha h9 => by rw [e2, hup_n h9]; exact h.2.2 a x ha h9⟩
set_option maxHeartbeats 4000000 in
set_option maxRecDepth 100000 in
theorem c_X10_init (l : Launch) (D : va_G) (dT : Nat → ClassId) (ah : hA) (sz : Nat) (mo : Nat) (hmo0 : ah mo = some (.inr (10, [.int 0, .int 0, .int 0, .int 0, .int 0, .null, .null, .null, .null, .null, .null, .null, .null, .null, .null, .null, .int 0, .null, .null, .int 0, .int 0, .null, .int 0, .int 0, .int 0, .int 0]))) : hMet l yX10_init cX10_init 1 none ({ frames := 1, cells := 14, slots := 34873, locals := 20 }) D dT [.ref mo] ah sz (fun r ah2 => ∃ (AR : Nat → Nat) (g : Nat → Nat → Int32), r = none ∧ moA dT ah2 mo AR (fun _ => 0) g ∧ (∀ k, k < 14 → ¬ k = 12 → g k = fun _ => 0) ∧ (∀ j, j < 7 → g 12 j = -1) ∧ (∀ k, k < 14 → ah (AR k) = none) ∧ ∀ a e, ah a = some e → a ≠ mo → ah2 a = some e) 14 34873 := by
  refine h_met (by decide) (Nat.le_of_ble_eq_true rfl) ?_
  intro p e s m below meth c ls R Q args hav hR hQ hB hl hsz hw
  obtain ⟨hx, hb, hml, hr, hts, hown, hlk, hin, hK⟩ := hB
  have hown : s.vm.findClass RX10 = some m.cls := hown
  have hl : lv_has ls 1 [(0, .ref mo)] := hl
  refine lv_aload_n hx hb dX10_init_0 rfl (lv_at hl 0 rfl) ?_
  refine W.objInit hx hb hown (hts _ km_X10_1) (hts _ ki_obj) (hts _ ko_obj) rfl (by rw [hml]; exact hl.1) rfl dX10_init_1 (by rw [hR]; exact Nat.le_of_ble_eq_true rfl) (by rw [hR]; exact Nat.le_of_ble_eq_true rfl) ?_
  refine W.eq (g2 := F0 m 4 ls []) rfl ?_
  have hk0 : mkA dT ah ah mo 0 (fun _ => 0) (fun _ _ => 0) := mkA_0
  refine lv_aload_n hx hb dX10_init_4 rfl (lv_at hl 0 rfl) ?_
  refine lv_sipush (v := 2048) hx hb dX10_init_5 (by decide) ?_
  refine h_newi hx hb (hts _ kA_int) hK hw 2048 (by decide) (by omega) (by rw [hR]; simp; try omega) (by rw [hR]; simp; try omega) dX10_init_8 (fun q_1 H_2 hqq_1 hw => ?_)
  obtain ⟨ah_3, eah_3⟩ : ∃ z9 : hA, z9 = hup ah q_1 (.inl (dT 0, 2048, .inl (fun _ => 0))) := ⟨_, rfl⟩
  have hw : hW D ah s.heap ah_3 H_2 [] := by rw [eah_3]; exact hw
  have hne_5 : mo ≠ q_1 := h_fr hmo0 hqq_1
  have hc_4 := (show ah_3 mo = _ from (by rw [eah_3]; exact hup_n (hne_5))).trans hmo0
  have hc_q_1 : ah_3 q_1 = some (.inl (dT 0, 2048, .inl (fun _ => 0))) := by rw [eah_3]; exact hup_s
  obtain ⟨hkn, hne0⟩ := mkA_n hk0 (ci := 10) hmo0 hqq_1 eah_3
  refine h_putF (ci := 10) (v := .ref q_1) (C := RX10) (T := TX10) (N := 26) hx hb hts kl_X10 tyX10 tyX10_ok nmX10 hown hK hw hc_4 rfl 5 (by decide) (hts _ kf_X10_7) rfl rfl hin rfl (tyX10_ok 5 (by decide)) rfl rfl (Nat.le_of_ble_eq_true rfl) dX10_init_10 (fun H_6 L_7 hw => ?_)
  obtain ⟨ah_8, eah_8⟩ : ∃ z9 : hA, z9 = hup ah_3 mo (.inr (10, [.int 0, .int 0, .int 0, .int 0, .int 0, .ref q_1, .null, .null, .null, .null, .null, .null, .null, .null, .null, .null, .int 0, .null, .null, .int 0, .int 0, .null, .int 0, .int 0, .int 0, .int 0])) := ⟨_, rfl⟩
  have hw : hW D ah s.heap ah_8 H_6 L_7 := by rw [eah_8]; exact hw
  have hc_9 : ah_8 mo = some (.inr (10, [.int 0, .int 0, .int 0, .int 0, .int 0, .ref q_1, .null, .null, .null, .null, .null, .null, .null, .null, .null, .null, .int 0, .null, .null, .int 0, .int 0, .null, .int 0, .int 0, .int 0, .int 0])) := by rw [eah_8]; exact hup_s
  have hc_10 := (show ah_8 q_1 = _ from (by rw [eah_8]; exact hup_n (hne_5.symm))).trans hc_q_1
  have hkp := mkA_o (mkA_s hkn hc_q_1 hne0) hc_4 eah_8
  refine lv_aload_n hx hb dX10_init_13 rfl (lv_at hl 0 rfl) ?_
  refine lv_sipush (v := 2048) hx hb dX10_init_14 (by decide) ?_
  refine h_newi hx hb (hts _ kA_int) hK hw 2048 (by decide) (by omega) (by rw [hR]; simp; try omega) (by rw [hR]; simp; try omega) dX10_init_17 (fun q_11 H_12 hqq_11 hw => ?_)
  obtain ⟨ah_13, eah_13⟩ : ∃ z9 : hA, z9 = hup ah_8 q_11 (.inl (dT 0, 2048, .inl (fun _ => 0))) := ⟨_, rfl⟩
  have hw : hW D ah s.heap ah_13 H_12 L_7 := by rw [eah_13]; exact hw
  have hne_15 : mo ≠ q_11 := h_fr hc_9 hqq_11
  have hc_14 := (show ah_13 mo = _ from (by rw [eah_13]; exact hup_n (hne_15))).trans hc_9
  have hc_q_11 : ah_13 q_11 = some (.inl (dT 0, 2048, .inl (fun _ => 0))) := by rw [eah_13]; exact hup_s
  obtain ⟨hkn, hne1⟩ := mkA_n hkp (ci := 10) hc_9 hqq_11 eah_13
  refine h_putF (ci := 10) (v := .ref q_11) (C := RX10) (T := TX10) (N := 26) hx hb hts kl_X10 tyX10 tyX10_ok nmX10 hown hK hw hc_14 rfl 6 (by decide) (hts _ kf_X10_13) rfl rfl hin rfl (tyX10_ok 6 (by decide)) rfl rfl (Nat.le_of_ble_eq_true rfl) dX10_init_19 (fun H_16 L_17 hw => ?_)
  obtain ⟨ah_18, eah_18⟩ : ∃ z9 : hA, z9 = hup ah_13 mo (.inr (10, [.int 0, .int 0, .int 0, .int 0, .int 0, .ref q_1, .ref q_11, .null, .null, .null, .null, .null, .null, .null, .null, .null, .int 0, .null, .null, .int 0, .int 0, .null, .int 0, .int 0, .int 0, .int 0])) := ⟨_, rfl⟩
  have hw : hW D ah s.heap ah_18 H_16 L_17 := by rw [eah_18]; exact hw
  have hc_19 : ah_18 mo = some (.inr (10, [.int 0, .int 0, .int 0, .int 0, .int 0, .ref q_1, .ref q_11, .null, .null, .null, .null, .null, .null, .null, .null, .null, .int 0, .null, .null, .int 0, .int 0, .null, .int 0, .int 0, .int 0, .int 0])) := by rw [eah_18]; exact hup_s
  have hc_20 := (show ah_18 q_11 = _ from (by rw [eah_18]; exact hup_n (hne_15.symm))).trans hc_q_11
  have hkp := mkA_o (mkA_s hkn hc_q_11 hne1) hc_14 eah_18
  refine lv_aload_n hx hb dX10_init_22 rfl (lv_at hl 0 rfl) ?_
  refine lv_sipush (v := 2048) hx hb dX10_init_23 (by decide) ?_
  refine h_newi hx hb (hts _ kA_int) hK hw 2048 (by decide) (by omega) (by rw [hR]; simp; try omega) (by rw [hR]; simp; try omega) dX10_init_26 (fun q_21 H_22 hqq_21 hw => ?_)
  obtain ⟨ah_23, eah_23⟩ : ∃ z9 : hA, z9 = hup ah_18 q_21 (.inl (dT 0, 2048, .inl (fun _ => 0))) := ⟨_, rfl⟩
  have hw : hW D ah s.heap ah_23 H_22 L_17 := by rw [eah_23]; exact hw
  have hne_25 : mo ≠ q_21 := h_fr hc_19 hqq_21
  have hc_24 := (show ah_23 mo = _ from (by rw [eah_23]; exact hup_n (hne_25))).trans hc_19
  have hc_q_21 : ah_23 q_21 = some (.inl (dT 0, 2048, .inl (fun _ => 0))) := by rw [eah_23]; exact hup_s
  obtain ⟨hkn, hne2⟩ := mkA_n hkp (ci := 10) hc_19 hqq_21 eah_23
  refine h_putF (ci := 10) (v := .ref q_21) (C := RX10) (T := TX10) (N := 26) hx hb hts kl_X10 tyX10 tyX10_ok nmX10 hown hK hw hc_24 rfl 7 (by decide) (hts _ kf_X10_16) rfl rfl hin rfl (tyX10_ok 7 (by decide)) rfl rfl (Nat.le_of_ble_eq_true rfl) dX10_init_28 (fun H_26 L_27 hw => ?_)
  obtain ⟨ah_28, eah_28⟩ : ∃ z9 : hA, z9 = hup ah_23 mo (.inr (10, [.int 0, .int 0, .int 0, .int 0, .int 0, .ref q_1, .ref q_11, .ref q_21, .null, .null, .null, .null, .null, .null, .null, .null, .int 0, .null, .null, .int 0, .int 0, .null, .int 0, .int 0, .int 0, .int 0])) := ⟨_, rfl⟩
  have hw : hW D ah s.heap ah_28 H_26 L_27 := by rw [eah_28]; exact hw
  have hc_29 : ah_28 mo = some (.inr (10, [.int 0, .int 0, .int 0, .int 0, .int 0, .ref q_1, .ref q_11, .ref q_21, .null, .null, .null, .null, .null, .null, .null, .null, .int 0, .null, .null, .int 0, .int 0, .null, .int 0, .int 0, .int 0, .int 0])) := by rw [eah_28]; exact hup_s
  have hc_30 := (show ah_28 q_21 = _ from (by rw [eah_28]; exact hup_n (hne_25.symm))).trans hc_q_21
  have hkp := mkA_o (mkA_s hkn hc_q_21 hne2) hc_24 eah_28
  refine lv_aload_n hx hb dX10_init_31 rfl (lv_at hl 0 rfl) ?_
  refine lv_sipush (v := 2048) hx hb dX10_init_32 (by decide) ?_
  refine h_newi hx hb (hts _ kA_int) hK hw 2048 (by decide) (by omega) (by rw [hR]; simp; try omega) (by rw [hR]; simp; try omega) dX10_init_35 (fun q_31 H_32 hqq_31 hw => ?_)
  obtain ⟨ah_33, eah_33⟩ : ∃ z9 : hA, z9 = hup ah_28 q_31 (.inl (dT 0, 2048, .inl (fun _ => 0))) := ⟨_, rfl⟩
  have hw : hW D ah s.heap ah_33 H_32 L_27 := by rw [eah_33]; exact hw
  have hne_35 : mo ≠ q_31 := h_fr hc_29 hqq_31
  have hc_34 := (show ah_33 mo = _ from (by rw [eah_33]; exact hup_n (hne_35))).trans hc_29
  have hc_q_31 : ah_33 q_31 = some (.inl (dT 0, 2048, .inl (fun _ => 0))) := by rw [eah_33]; exact hup_s
  obtain ⟨hkn, hne3⟩ := mkA_n hkp (ci := 10) hc_29 hqq_31 eah_33
  refine h_putF (ci := 10) (v := .ref q_31) (C := RX10) (T := TX10) (N := 26) hx hb hts kl_X10 tyX10 tyX10_ok nmX10 hown hK hw hc_34 rfl 8 (by decide) (hts _ kf_X10_19) rfl rfl hin rfl (tyX10_ok 8 (by decide)) rfl rfl (Nat.le_of_ble_eq_true rfl) dX10_init_37 (fun H_36 L_37 hw => ?_)
  obtain ⟨ah_38, eah_38⟩ : ∃ z9 : hA, z9 = hup ah_33 mo (.inr (10, [.int 0, .int 0, .int 0, .int 0, .int 0, .ref q_1, .ref q_11, .ref q_21, .ref q_31, .null, .null, .null, .null, .null, .null, .null, .int 0, .null, .null, .int 0, .int 0, .null, .int 0, .int 0, .int 0, .int 0])) := ⟨_, rfl⟩
  have hw : hW D ah s.heap ah_38 H_36 L_37 := by rw [eah_38]; exact hw
  have hc_39 : ah_38 mo = some (.inr (10, [.int 0, .int 0, .int 0, .int 0, .int 0, .ref q_1, .ref q_11, .ref q_21, .ref q_31, .null, .null, .null, .null, .null, .null, .null, .int 0, .null, .null, .int 0, .int 0, .null, .int 0, .int 0, .int 0, .int 0])) := by rw [eah_38]; exact hup_s
  have hc_40 := (show ah_38 q_31 = _ from (by rw [eah_38]; exact hup_n (hne_35.symm))).trans hc_q_31
  have hkp := mkA_o (mkA_s hkn hc_q_31 hne3) hc_34 eah_38
  refine lv_aload_n hx hb dX10_init_40 rfl (lv_at hl 0 rfl) ?_
  refine lv_sipush (v := 2048) hx hb dX10_init_41 (by decide) ?_
  refine h_newi hx hb (hts _ kA_int) hK hw 2048 (by decide) (by omega) (by rw [hR]; simp; try omega) (by rw [hR]; simp; try omega) dX10_init_44 (fun q_41 H_42 hqq_41 hw => ?_)
  obtain ⟨ah_43, eah_43⟩ : ∃ z9 : hA, z9 = hup ah_38 q_41 (.inl (dT 0, 2048, .inl (fun _ => 0))) := ⟨_, rfl⟩
  have hw : hW D ah s.heap ah_43 H_42 L_37 := by rw [eah_43]; exact hw
  have hne_45 : mo ≠ q_41 := h_fr hc_39 hqq_41
  have hc_44 := (show ah_43 mo = _ from (by rw [eah_43]; exact hup_n (hne_45))).trans hc_39
  have hc_q_41 : ah_43 q_41 = some (.inl (dT 0, 2048, .inl (fun _ => 0))) := by rw [eah_43]; exact hup_s
  obtain ⟨hkn, hne4⟩ := mkA_n hkp (ci := 10) hc_39 hqq_41 eah_43
  refine h_putF (ci := 10) (v := .ref q_41) (C := RX10) (T := TX10) (N := 26) hx hb hts kl_X10 tyX10 tyX10_ok nmX10 hown hK hw hc_44 rfl 9 (by decide) (hts _ kf_X10_22) rfl rfl hin rfl (tyX10_ok 9 (by decide)) rfl rfl (Nat.le_of_ble_eq_true rfl) dX10_init_46 (fun H_46 L_47 hw => ?_)
  obtain ⟨ah_48, eah_48⟩ : ∃ z9 : hA, z9 = hup ah_43 mo (.inr (10, [.int 0, .int 0, .int 0, .int 0, .int 0, .ref q_1, .ref q_11, .ref q_21, .ref q_31, .ref q_41, .null, .null, .null, .null, .null, .null, .int 0, .null, .null, .int 0, .int 0, .null, .int 0, .int 0, .int 0, .int 0])) := ⟨_, rfl⟩
  have hw : hW D ah s.heap ah_48 H_46 L_47 := by rw [eah_48]; exact hw
  have hc_49 : ah_48 mo = some (.inr (10, [.int 0, .int 0, .int 0, .int 0, .int 0, .ref q_1, .ref q_11, .ref q_21, .ref q_31, .ref q_41, .null, .null, .null, .null, .null, .null, .int 0, .null, .null, .int 0, .int 0, .null, .int 0, .int 0, .int 0, .int 0])) := by rw [eah_48]; exact hup_s
  have hc_50 := (show ah_48 q_41 = _ from (by rw [eah_48]; exact hup_n (hne_45.symm))).trans hc_q_41
  have hkp := mkA_o (mkA_s hkn hc_q_41 hne4) hc_44 eah_48
  refine lv_aload_n hx hb dX10_init_49 rfl (lv_at hl 0 rfl) ?_
  refine lv_sipush (v := 2048) hx hb dX10_init_50 (by decide) ?_
  refine h_newi hx hb (hts _ kA_int) hK hw 2048 (by decide) (by omega) (by rw [hR]; simp; try omega) (by rw [hR]; simp; try omega) dX10_init_53 (fun q_51 H_52 hqq_51 hw => ?_)
  obtain ⟨ah_53, eah_53⟩ : ∃ z9 : hA, z9 = hup ah_48 q_51 (.inl (dT 0, 2048, .inl (fun _ => 0))) := ⟨_, rfl⟩
  have hw : hW D ah s.heap ah_53 H_52 L_47 := by rw [eah_53]; exact hw
  have hne_55 : mo ≠ q_51 := h_fr hc_49 hqq_51
  have hc_54 := (show ah_53 mo = _ from (by rw [eah_53]; exact hup_n (hne_55))).trans hc_49
  have hc_q_51 : ah_53 q_51 = some (.inl (dT 0, 2048, .inl (fun _ => 0))) := by rw [eah_53]; exact hup_s
  obtain ⟨hkn, hne5⟩ := mkA_n hkp (ci := 10) hc_49 hqq_51 eah_53
  refine h_putF (ci := 10) (v := .ref q_51) (C := RX10) (T := TX10) (N := 26) hx hb hts kl_X10 tyX10 tyX10_ok nmX10 hown hK hw hc_54 rfl 10 (by decide) (hts _ kf_X10_25) rfl rfl hin rfl (tyX10_ok 10 (by decide)) rfl rfl (Nat.le_of_ble_eq_true rfl) dX10_init_55 (fun H_56 L_57 hw => ?_)
  obtain ⟨ah_58, eah_58⟩ : ∃ z9 : hA, z9 = hup ah_53 mo (.inr (10, [.int 0, .int 0, .int 0, .int 0, .int 0, .ref q_1, .ref q_11, .ref q_21, .ref q_31, .ref q_41, .ref q_51, .null, .null, .null, .null, .null, .int 0, .null, .null, .int 0, .int 0, .null, .int 0, .int 0, .int 0, .int 0])) := ⟨_, rfl⟩
  have hw : hW D ah s.heap ah_58 H_56 L_57 := by rw [eah_58]; exact hw
  have hc_59 : ah_58 mo = some (.inr (10, [.int 0, .int 0, .int 0, .int 0, .int 0, .ref q_1, .ref q_11, .ref q_21, .ref q_31, .ref q_41, .ref q_51, .null, .null, .null, .null, .null, .int 0, .null, .null, .int 0, .int 0, .null, .int 0, .int 0, .int 0, .int 0])) := by rw [eah_58]; exact hup_s
  have hc_60 := (show ah_58 q_51 = _ from (by rw [eah_58]; exact hup_n (hne_55.symm))).trans hc_q_51
  have hkp := mkA_o (mkA_s hkn hc_q_51 hne5) hc_54 eah_58
  refine lv_aload_n hx hb dX10_init_58 rfl (lv_at hl 0 rfl) ?_
  refine lv_sipush (v := 2048) hx hb dX10_init_59 (by decide) ?_
  refine h_newi hx hb (hts _ kA_int) hK hw 2048 (by decide) (by omega) (by rw [hR]; simp; try omega) (by rw [hR]; simp; try omega) dX10_init_62 (fun q_61 H_62 hqq_61 hw => ?_)
  obtain ⟨ah_63, eah_63⟩ : ∃ z9 : hA, z9 = hup ah_58 q_61 (.inl (dT 0, 2048, .inl (fun _ => 0))) := ⟨_, rfl⟩
  have hw : hW D ah s.heap ah_63 H_62 L_57 := by rw [eah_63]; exact hw
  have hne_65 : mo ≠ q_61 := h_fr hc_59 hqq_61
  have hc_64 := (show ah_63 mo = _ from (by rw [eah_63]; exact hup_n (hne_65))).trans hc_59
  have hc_q_61 : ah_63 q_61 = some (.inl (dT 0, 2048, .inl (fun _ => 0))) := by rw [eah_63]; exact hup_s
  obtain ⟨hkn, hne6⟩ := mkA_n hkp (ci := 10) hc_59 hqq_61 eah_63
  refine h_putF (ci := 10) (v := .ref q_61) (C := RX10) (T := TX10) (N := 26) hx hb hts kl_X10 tyX10 tyX10_ok nmX10 hown hK hw hc_64 rfl 11 (by decide) (hts _ kf_X10_28) rfl rfl hin rfl (tyX10_ok 11 (by decide)) rfl rfl (Nat.le_of_ble_eq_true rfl) dX10_init_64 (fun H_66 L_67 hw => ?_)
  obtain ⟨ah_68, eah_68⟩ : ∃ z9 : hA, z9 = hup ah_63 mo (.inr (10, [.int 0, .int 0, .int 0, .int 0, .int 0, .ref q_1, .ref q_11, .ref q_21, .ref q_31, .ref q_41, .ref q_51, .ref q_61, .null, .null, .null, .null, .int 0, .null, .null, .int 0, .int 0, .null, .int 0, .int 0, .int 0, .int 0])) := ⟨_, rfl⟩
  have hw : hW D ah s.heap ah_68 H_66 L_67 := by rw [eah_68]; exact hw
  have hc_69 : ah_68 mo = some (.inr (10, [.int 0, .int 0, .int 0, .int 0, .int 0, .ref q_1, .ref q_11, .ref q_21, .ref q_31, .ref q_41, .ref q_51, .ref q_61, .null, .null, .null, .null, .int 0, .null, .null, .int 0, .int 0, .null, .int 0, .int 0, .int 0, .int 0])) := by rw [eah_68]; exact hup_s
  have hc_70 := (show ah_68 q_61 = _ from (by rw [eah_68]; exact hup_n (hne_65.symm))).trans hc_q_61
  have hkp := mkA_o (mkA_s hkn hc_q_61 hne6) hc_64 eah_68
  refine lv_aload_n hx hb dX10_init_67 rfl (lv_at hl 0 rfl) ?_
  refine lv_sipush (v := 4096) hx hb dX10_init_68 (by decide) ?_
  refine h_newi hx hb (hts _ kA_int) hK hw 4096 (by decide) (by omega) (by rw [hR]; simp; try omega) (by rw [hR]; simp; try omega) dX10_init_71 (fun q_71 H_72 hqq_71 hw => ?_)
  obtain ⟨ah_73, eah_73⟩ : ∃ z9 : hA, z9 = hup ah_68 q_71 (.inl (dT 0, 4096, .inl (fun _ => 0))) := ⟨_, rfl⟩
  have hw : hW D ah s.heap ah_73 H_72 L_67 := by rw [eah_73]; exact hw
  have hne_75 : mo ≠ q_71 := h_fr hc_69 hqq_71
  have hc_74 := (show ah_73 mo = _ from (by rw [eah_73]; exact hup_n (hne_75))).trans hc_69
  have hc_q_71 : ah_73 q_71 = some (.inl (dT 0, 4096, .inl (fun _ => 0))) := by rw [eah_73]; exact hup_s
  obtain ⟨hkn, hne7⟩ := mkA_n hkp (ci := 10) hc_69 hqq_71 eah_73
  refine h_putF (ci := 10) (v := .ref q_71) (C := RX10) (T := TX10) (N := 26) hx hb hts kl_X10 tyX10 tyX10_ok nmX10 hown hK hw hc_74 rfl 12 (by decide) (hts _ kf_X10_31) rfl rfl hin rfl (tyX10_ok 12 (by decide)) rfl rfl (Nat.le_of_ble_eq_true rfl) dX10_init_73 (fun H_76 L_77 hw => ?_)
  obtain ⟨ah_78, eah_78⟩ : ∃ z9 : hA, z9 = hup ah_73 mo (.inr (10, [.int 0, .int 0, .int 0, .int 0, .int 0, .ref q_1, .ref q_11, .ref q_21, .ref q_31, .ref q_41, .ref q_51, .ref q_61, .ref q_71, .null, .null, .null, .int 0, .null, .null, .int 0, .int 0, .null, .int 0, .int 0, .int 0, .int 0])) := ⟨_, rfl⟩
  have hw : hW D ah s.heap ah_78 H_76 L_77 := by rw [eah_78]; exact hw
  have hc_79 : ah_78 mo = some (.inr (10, [.int 0, .int 0, .int 0, .int 0, .int 0, .ref q_1, .ref q_11, .ref q_21, .ref q_31, .ref q_41, .ref q_51, .ref q_61, .ref q_71, .null, .null, .null, .int 0, .null, .null, .int 0, .int 0, .null, .int 0, .int 0, .int 0, .int 0])) := by rw [eah_78]; exact hup_s
  have hc_80 := (show ah_78 q_71 = _ from (by rw [eah_78]; exact hup_n (hne_75.symm))).trans hc_q_71
  have hkp := mkA_o (mkA_s hkn hc_q_71 hne7) hc_74 eah_78
  refine lv_aload_n hx hb dX10_init_76 rfl (lv_at hl 0 rfl) ?_
  refine lv_sipush (v := 4096) hx hb dX10_init_77 (by decide) ?_
  refine h_newi hx hb (hts _ kA_int) hK hw 4096 (by decide) (by omega) (by rw [hR]; simp; try omega) (by rw [hR]; simp; try omega) dX10_init_80 (fun q_81 H_82 hqq_81 hw => ?_)
  obtain ⟨ah_83, eah_83⟩ : ∃ z9 : hA, z9 = hup ah_78 q_81 (.inl (dT 0, 4096, .inl (fun _ => 0))) := ⟨_, rfl⟩
  have hw : hW D ah s.heap ah_83 H_82 L_77 := by rw [eah_83]; exact hw
  have hne_85 : mo ≠ q_81 := h_fr hc_79 hqq_81
  have hc_84 := (show ah_83 mo = _ from (by rw [eah_83]; exact hup_n (hne_85))).trans hc_79
  have hc_q_81 : ah_83 q_81 = some (.inl (dT 0, 4096, .inl (fun _ => 0))) := by rw [eah_83]; exact hup_s
  obtain ⟨hkn, hne8⟩ := mkA_n hkp (ci := 10) hc_79 hqq_81 eah_83
  refine h_putF (ci := 10) (v := .ref q_81) (C := RX10) (T := TX10) (N := 26) hx hb hts kl_X10 tyX10 tyX10_ok nmX10 hown hK hw hc_84 rfl 13 (by decide) (hts _ kf_X10_34) rfl rfl hin rfl (tyX10_ok 13 (by decide)) rfl rfl (Nat.le_of_ble_eq_true rfl) dX10_init_82 (fun H_86 L_87 hw => ?_)
  obtain ⟨ah_88, eah_88⟩ : ∃ z9 : hA, z9 = hup ah_83 mo (.inr (10, [.int 0, .int 0, .int 0, .int 0, .int 0, .ref q_1, .ref q_11, .ref q_21, .ref q_31, .ref q_41, .ref q_51, .ref q_61, .ref q_71, .ref q_81, .null, .null, .int 0, .null, .null, .int 0, .int 0, .null, .int 0, .int 0, .int 0, .int 0])) := ⟨_, rfl⟩
  have hw : hW D ah s.heap ah_88 H_86 L_87 := by rw [eah_88]; exact hw
  have hc_89 : ah_88 mo = some (.inr (10, [.int 0, .int 0, .int 0, .int 0, .int 0, .ref q_1, .ref q_11, .ref q_21, .ref q_31, .ref q_41, .ref q_51, .ref q_61, .ref q_71, .ref q_81, .null, .null, .int 0, .null, .null, .int 0, .int 0, .null, .int 0, .int 0, .int 0, .int 0])) := by rw [eah_88]; exact hup_s
  have hc_90 := (show ah_88 q_81 = _ from (by rw [eah_88]; exact hup_n (hne_85.symm))).trans hc_q_81
  have hkp := mkA_o (mkA_s hkn hc_q_81 hne8) hc_84 eah_88
  refine lv_aload_n hx hb dX10_init_85 rfl (lv_at hl 0 rfl) ?_
  refine lv_sipush (v := 4096) hx hb dX10_init_86 (by decide) ?_
  refine h_newi hx hb (hts _ kA_int) hK hw 4096 (by decide) (by omega) (by rw [hR]; simp; try omega) (by rw [hR]; simp; try omega) dX10_init_89 (fun q_91 H_92 hqq_91 hw => ?_)
  obtain ⟨ah_93, eah_93⟩ : ∃ z9 : hA, z9 = hup ah_88 q_91 (.inl (dT 0, 4096, .inl (fun _ => 0))) := ⟨_, rfl⟩
  have hw : hW D ah s.heap ah_93 H_92 L_87 := by rw [eah_93]; exact hw
  have hne_95 : mo ≠ q_91 := h_fr hc_89 hqq_91
  have hc_94 := (show ah_93 mo = _ from (by rw [eah_93]; exact hup_n (hne_95))).trans hc_89
  have hc_q_91 : ah_93 q_91 = some (.inl (dT 0, 4096, .inl (fun _ => 0))) := by rw [eah_93]; exact hup_s
  obtain ⟨hkn, hne9⟩ := mkA_n hkp (ci := 10) hc_89 hqq_91 eah_93
  refine h_putF (ci := 10) (v := .ref q_91) (C := RX10) (T := TX10) (N := 26) hx hb hts kl_X10 tyX10 tyX10_ok nmX10 hown hK hw hc_94 rfl 14 (by decide) (hts _ kf_X10_37) rfl rfl hin rfl (tyX10_ok 14 (by decide)) rfl rfl (Nat.le_of_ble_eq_true rfl) dX10_init_91 (fun H_96 L_97 hw => ?_)
  obtain ⟨ah_98, eah_98⟩ : ∃ z9 : hA, z9 = hup ah_93 mo (.inr (10, [.int 0, .int 0, .int 0, .int 0, .int 0, .ref q_1, .ref q_11, .ref q_21, .ref q_31, .ref q_41, .ref q_51, .ref q_61, .ref q_71, .ref q_81, .ref q_91, .null, .int 0, .null, .null, .int 0, .int 0, .null, .int 0, .int 0, .int 0, .int 0])) := ⟨_, rfl⟩
  have hw : hW D ah s.heap ah_98 H_96 L_97 := by rw [eah_98]; exact hw
  have hc_99 : ah_98 mo = some (.inr (10, [.int 0, .int 0, .int 0, .int 0, .int 0, .ref q_1, .ref q_11, .ref q_21, .ref q_31, .ref q_41, .ref q_51, .ref q_61, .ref q_71, .ref q_81, .ref q_91, .null, .int 0, .null, .null, .int 0, .int 0, .null, .int 0, .int 0, .int 0, .int 0])) := by rw [eah_98]; exact hup_s
  have hc_100 := (show ah_98 q_91 = _ from (by rw [eah_98]; exact hup_n (hne_95.symm))).trans hc_q_91
  have hkp := mkA_o (mkA_s hkn hc_q_91 hne9) hc_94 eah_98
  refine lv_aload_n hx hb dX10_init_94 rfl (lv_at hl 0 rfl) ?_
  refine lv_sipush (v := 4096) hx hb dX10_init_95 (by decide) ?_
  refine h_newi hx hb (hts _ kA_int) hK hw 4096 (by decide) (by omega) (by rw [hR]; simp; try omega) (by rw [hR]; simp; try omega) dX10_init_98 (fun q_101 H_102 hqq_101 hw => ?_)
  obtain ⟨ah_103, eah_103⟩ : ∃ z9 : hA, z9 = hup ah_98 q_101 (.inl (dT 0, 4096, .inl (fun _ => 0))) := ⟨_, rfl⟩
  have hw : hW D ah s.heap ah_103 H_102 L_97 := by rw [eah_103]; exact hw
  have hne_105 : mo ≠ q_101 := h_fr hc_99 hqq_101
  have hc_104 := (show ah_103 mo = _ from (by rw [eah_103]; exact hup_n (hne_105))).trans hc_99
  have hc_q_101 : ah_103 q_101 = some (.inl (dT 0, 4096, .inl (fun _ => 0))) := by rw [eah_103]; exact hup_s
  obtain ⟨hkn, hne10⟩ := mkA_n hkp (ci := 10) hc_99 hqq_101 eah_103
  refine h_putF (ci := 10) (v := .ref q_101) (C := RX10) (T := TX10) (N := 26) hx hb hts kl_X10 tyX10 tyX10_ok nmX10 hown hK hw hc_104 rfl 15 (by decide) (hts _ kf_X10_40) rfl rfl hin rfl (tyX10_ok 15 (by decide)) rfl rfl (Nat.le_of_ble_eq_true rfl) dX10_init_100 (fun H_106 L_107 hw => ?_)
  obtain ⟨ah_108, eah_108⟩ : ∃ z9 : hA, z9 = hup ah_103 mo (.inr (10, [.int 0, .int 0, .int 0, .int 0, .int 0, .ref q_1, .ref q_11, .ref q_21, .ref q_31, .ref q_41, .ref q_51, .ref q_61, .ref q_71, .ref q_81, .ref q_91, .ref q_101, .int 0, .null, .null, .int 0, .int 0, .null, .int 0, .int 0, .int 0, .int 0])) := ⟨_, rfl⟩
  have hw : hW D ah s.heap ah_108 H_106 L_107 := by rw [eah_108]; exact hw
  have hc_109 : ah_108 mo = some (.inr (10, [.int 0, .int 0, .int 0, .int 0, .int 0, .ref q_1, .ref q_11, .ref q_21, .ref q_31, .ref q_41, .ref q_51, .ref q_61, .ref q_71, .ref q_81, .ref q_91, .ref q_101, .int 0, .null, .null, .int 0, .int 0, .null, .int 0, .int 0, .int 0, .int 0])) := by rw [eah_108]; exact hup_s
  have hc_110 := (show ah_108 q_101 = _ from (by rw [eah_108]; exact hup_n (hne_105.symm))).trans hc_q_101
  have hkp := mkA_o (mkA_s hkn hc_q_101 hne10) hc_104 eah_108
  refine lv_aload_n hx hb dX10_init_103 rfl (lv_at hl 0 rfl) ?_
  refine lv_bipush (v := 50) hx hb dX10_init_104 (by decide) ?_
  refine h_newi hx hb (hts _ kA_int) hK hw 50 (by decide) (by omega) (by rw [hR]; simp; try omega) (by rw [hR]; simp; try omega) dX10_init_106 (fun q_111 H_112 hqq_111 hw => ?_)
  obtain ⟨ah_113, eah_113⟩ : ∃ z9 : hA, z9 = hup ah_108 q_111 (.inl (dT 0, 50, .inl (fun _ => 0))) := ⟨_, rfl⟩
  have hw : hW D ah s.heap ah_113 H_112 L_107 := by rw [eah_113]; exact hw
  have hne_115 : mo ≠ q_111 := h_fr hc_109 hqq_111
  have hc_114 := (show ah_113 mo = _ from (by rw [eah_113]; exact hup_n (hne_115))).trans hc_109
  have hc_q_111 : ah_113 q_111 = some (.inl (dT 0, 50, .inl (fun _ => 0))) := by rw [eah_113]; exact hup_s
  obtain ⟨hkn, hne11⟩ := mkA_n hkp (ci := 10) hc_109 hqq_111 eah_113
  refine h_putF (ci := 10) (v := .ref q_111) (C := RX10) (T := TX10) (N := 26) hx hb hts kl_X10 tyX10 tyX10_ok nmX10 hown hK hw hc_114 rfl 17 (by decide) (hts _ kf_X10_43) rfl rfl hin rfl (tyX10_ok 17 (by decide)) rfl rfl (Nat.le_of_ble_eq_true rfl) dX10_init_108 (fun H_116 L_117 hw => ?_)
  obtain ⟨ah_118, eah_118⟩ : ∃ z9 : hA, z9 = hup ah_113 mo (.inr (10, [.int 0, .int 0, .int 0, .int 0, .int 0, .ref q_1, .ref q_11, .ref q_21, .ref q_31, .ref q_41, .ref q_51, .ref q_61, .ref q_71, .ref q_81, .ref q_91, .ref q_101, .int 0, .ref q_111, .null, .int 0, .int 0, .null, .int 0, .int 0, .int 0, .int 0])) := ⟨_, rfl⟩
  have hw : hW D ah s.heap ah_118 H_116 L_117 := by rw [eah_118]; exact hw
  have hc_119 : ah_118 mo = some (.inr (10, [.int 0, .int 0, .int 0, .int 0, .int 0, .ref q_1, .ref q_11, .ref q_21, .ref q_31, .ref q_41, .ref q_51, .ref q_61, .ref q_71, .ref q_81, .ref q_91, .ref q_101, .int 0, .ref q_111, .null, .int 0, .int 0, .null, .int 0, .int 0, .int 0, .int 0])) := by rw [eah_118]; exact hup_s
  have hc_120 := (show ah_118 q_111 = _ from (by rw [eah_118]; exact hup_n (hne_115.symm))).trans hc_q_111
  have hkp := mkA_o (mkA_s hkn hc_q_111 hne11) hc_114 eah_118
  refine lv_aload_n hx hb dX10_init_111 rfl (lv_at hl 0 rfl) ?_
  refine lv_bipush (v := 7) hx hb dX10_init_112 (by decide) ?_
  refine h_newi hx hb (hts _ kA_int) hK hw 7 (by decide) (by omega) (by rw [hR]; simp; try omega) (by rw [hR]; simp; try omega) dX10_init_114 (fun q_121 H_122 hqq_121 hw => ?_)
  obtain ⟨ah_123, eah_123⟩ : ∃ z9 : hA, z9 = hup ah_118 q_121 (.inl (dT 0, 7, .inl (fun _ => 0))) := ⟨_, rfl⟩
  have hw : hW D ah s.heap ah_123 H_122 L_117 := by rw [eah_123]; exact hw
  have hne_125 : mo ≠ q_121 := h_fr hc_119 hqq_121
  have hc_124 := (show ah_123 mo = _ from (by rw [eah_123]; exact hup_n (hne_125))).trans hc_119
  have hc_q_121 : ah_123 q_121 = some (.inl (dT 0, 7, .inl (fun _ => 0))) := by rw [eah_123]; exact hup_s
  obtain ⟨hkn, hne12⟩ := mkA_n hkp (ci := 10) hc_119 hqq_121 eah_123
  refine lv_dup hx hb dX10_init_116 rfl ?_
  refine lv_iconst (v := 0) hx hb dX10_init_117 (by decide) ?_
  refine lv_iconst (v := (-1)) hx hb dX10_init_118 (by decide) ?_
  refine h_iast hx hb hK hw hc_q_121 0 (by decide) (by omega) (by omega) dX10_init_119 (fun H_126 L_127 hw => ?_)
  obtain ⟨ah_128, eah_128⟩ : ∃ z9 : hA, z9 = hup ah_123 q_121 (.inl (dT 0, 7, .inl (upd (fun _ => 0) 0 (-1)))) := ⟨_, rfl⟩
  have hw : hW D ah s.heap ah_128 H_126 L_127 := by rw [eah_128]; exact hw
  have hc_129 := (show ah_128 mo = _ from (by rw [eah_128]; exact hup_n (hne_125))).trans hc_124
  have hc_130 : ah_128 q_121 = some (.inl (dT 0, 7, .inl (upd (fun _ => 0) 0 (-1)))) := by rw [eah_128]; exact hup_s
  have hkw := mkA_w hkn hne12 eah_128
  refine lv_dup hx hb dX10_init_120 rfl ?_
  refine lv_iconst (v := 1) hx hb dX10_init_121 (by decide) ?_
  refine lv_iconst (v := (-1)) hx hb dX10_init_122 (by decide) ?_
  refine h_iast hx hb hK hw hc_130 1 (by decide) (by omega) (by omega) dX10_init_123 (fun H_131 L_132 hw => ?_)
  obtain ⟨ah_133, eah_133⟩ : ∃ z9 : hA, z9 = hup ah_128 q_121 (.inl (dT 0, 7, .inl (upd (upd (fun _ => 0) 0 (-1)) 1 (-1)))) := ⟨_, rfl⟩
  have hw : hW D ah s.heap ah_133 H_131 L_132 := by rw [eah_133]; exact hw
  have hc_134 := (show ah_133 mo = _ from (by rw [eah_133]; exact hup_n (hne_125))).trans hc_129
  have hc_135 : ah_133 q_121 = some (.inl (dT 0, 7, .inl (upd (upd (fun _ => 0) 0 (-1)) 1 (-1)))) := by rw [eah_133]; exact hup_s
  have hkw := mkA_w hkw hne12 eah_133
  refine lv_dup hx hb dX10_init_124 rfl ?_
  refine lv_iconst (v := 2) hx hb dX10_init_125 (by decide) ?_
  refine lv_iconst (v := (-1)) hx hb dX10_init_126 (by decide) ?_
  refine h_iast hx hb hK hw hc_135 2 (by decide) (by omega) (by omega) dX10_init_127 (fun H_136 L_137 hw => ?_)
  obtain ⟨ah_138, eah_138⟩ : ∃ z9 : hA, z9 = hup ah_133 q_121 (.inl (dT 0, 7, .inl (upd (upd (upd (fun _ => 0) 0 (-1)) 1 (-1)) 2 (-1)))) := ⟨_, rfl⟩
  have hw : hW D ah s.heap ah_138 H_136 L_137 := by rw [eah_138]; exact hw
  have hc_139 := (show ah_138 mo = _ from (by rw [eah_138]; exact hup_n (hne_125))).trans hc_134
  have hc_140 : ah_138 q_121 = some (.inl (dT 0, 7, .inl (upd (upd (upd (fun _ => 0) 0 (-1)) 1 (-1)) 2 (-1)))) := by rw [eah_138]; exact hup_s
  have hkw := mkA_w hkw hne12 eah_138
  refine lv_dup hx hb dX10_init_128 rfl ?_
  refine lv_iconst (v := 3) hx hb dX10_init_129 (by decide) ?_
  refine lv_iconst (v := (-1)) hx hb dX10_init_130 (by decide) ?_
  refine h_iast hx hb hK hw hc_140 3 (by decide) (by omega) (by omega) dX10_init_131 (fun H_141 L_142 hw => ?_)
  obtain ⟨ah_143, eah_143⟩ : ∃ z9 : hA, z9 = hup ah_138 q_121 (.inl (dT 0, 7, .inl (upd (upd (upd (upd (fun _ => 0) 0 (-1)) 1 (-1)) 2 (-1)) 3 (-1)))) := ⟨_, rfl⟩
  have hw : hW D ah s.heap ah_143 H_141 L_142 := by rw [eah_143]; exact hw
  have hc_144 := (show ah_143 mo = _ from (by rw [eah_143]; exact hup_n (hne_125))).trans hc_139
  have hc_145 : ah_143 q_121 = some (.inl (dT 0, 7, .inl (upd (upd (upd (upd (fun _ => 0) 0 (-1)) 1 (-1)) 2 (-1)) 3 (-1)))) := by rw [eah_143]; exact hup_s
  have hkw := mkA_w hkw hne12 eah_143
  refine lv_dup hx hb dX10_init_132 rfl ?_
  refine lv_iconst (v := 4) hx hb dX10_init_133 (by decide) ?_
  refine lv_iconst (v := (-1)) hx hb dX10_init_134 (by decide) ?_
  refine h_iast hx hb hK hw hc_145 4 (by decide) (by omega) (by omega) dX10_init_135 (fun H_146 L_147 hw => ?_)
  obtain ⟨ah_148, eah_148⟩ : ∃ z9 : hA, z9 = hup ah_143 q_121 (.inl (dT 0, 7, .inl (upd (upd (upd (upd (upd (fun _ => 0) 0 (-1)) 1 (-1)) 2 (-1)) 3 (-1)) 4 (-1)))) := ⟨_, rfl⟩
  have hw : hW D ah s.heap ah_148 H_146 L_147 := by rw [eah_148]; exact hw
  have hc_149 := (show ah_148 mo = _ from (by rw [eah_148]; exact hup_n (hne_125))).trans hc_144
  have hc_150 : ah_148 q_121 = some (.inl (dT 0, 7, .inl (upd (upd (upd (upd (upd (fun _ => 0) 0 (-1)) 1 (-1)) 2 (-1)) 3 (-1)) 4 (-1)))) := by rw [eah_148]; exact hup_s
  have hkw := mkA_w hkw hne12 eah_148
  refine lv_dup hx hb dX10_init_136 rfl ?_
  refine lv_iconst (v := 5) hx hb dX10_init_137 (by decide) ?_
  refine lv_iconst (v := (-1)) hx hb dX10_init_138 (by decide) ?_
  refine h_iast hx hb hK hw hc_150 5 (by decide) (by omega) (by omega) dX10_init_139 (fun H_151 L_152 hw => ?_)
  obtain ⟨ah_153, eah_153⟩ : ∃ z9 : hA, z9 = hup ah_148 q_121 (.inl (dT 0, 7, .inl (upd (upd (upd (upd (upd (upd (fun _ => 0) 0 (-1)) 1 (-1)) 2 (-1)) 3 (-1)) 4 (-1)) 5 (-1)))) := ⟨_, rfl⟩
  have hw : hW D ah s.heap ah_153 H_151 L_152 := by rw [eah_153]; exact hw
  have hc_154 := (show ah_153 mo = _ from (by rw [eah_153]; exact hup_n (hne_125))).trans hc_149
  have hc_155 : ah_153 q_121 = some (.inl (dT 0, 7, .inl (upd (upd (upd (upd (upd (upd (fun _ => 0) 0 (-1)) 1 (-1)) 2 (-1)) 3 (-1)) 4 (-1)) 5 (-1)))) := by rw [eah_153]; exact hup_s
  have hkw := mkA_w hkw hne12 eah_153
  refine lv_dup hx hb dX10_init_140 rfl ?_
  refine lv_bipush (v := 6) hx hb dX10_init_141 (by decide) ?_
  refine lv_iconst (v := (-1)) hx hb dX10_init_143 (by decide) ?_
  refine h_iast hx hb hK hw hc_155 6 (by decide) (by omega) (by omega) dX10_init_144 (fun H_156 L_157 hw => ?_)
  obtain ⟨ah_158, eah_158⟩ : ∃ z9 : hA, z9 = hup ah_153 q_121 (.inl (dT 0, 7, .inl (upd (upd (upd (upd (upd (upd (upd (fun _ => 0) 0 (-1)) 1 (-1)) 2 (-1)) 3 (-1)) 4 (-1)) 5 (-1)) 6 (-1)))) := ⟨_, rfl⟩
  have hw : hW D ah s.heap ah_158 H_156 L_157 := by rw [eah_158]; exact hw
  have hc_159 := (show ah_158 mo = _ from (by rw [eah_158]; exact hup_n (hne_125))).trans hc_154
  have hc_160 : ah_158 q_121 = some (.inl (dT 0, 7, .inl (upd (upd (upd (upd (upd (upd (upd (fun _ => 0) 0 (-1)) 1 (-1)) 2 (-1)) 3 (-1)) 4 (-1)) 5 (-1)) 6 (-1)))) := by rw [eah_158]; exact hup_s
  have hkw := mkA_w hkw hne12 eah_158
  refine h_putF (ci := 10) (v := .ref q_121) (C := RX10) (T := TX10) (N := 26) hx hb hts kl_X10 tyX10 tyX10_ok nmX10 hown hK hw hc_159 rfl 18 (by decide) (hts _ kf_X10_46) rfl rfl hin rfl (tyX10_ok 18 (by decide)) rfl rfl (Nat.le_of_ble_eq_true rfl) dX10_init_145 (fun H_161 L_162 hw => ?_)
  obtain ⟨ah_163, eah_163⟩ : ∃ z9 : hA, z9 = hup ah_158 mo (.inr (10, [.int 0, .int 0, .int 0, .int 0, .int 0, .ref q_1, .ref q_11, .ref q_21, .ref q_31, .ref q_41, .ref q_51, .ref q_61, .ref q_71, .ref q_81, .ref q_91, .ref q_101, .int 0, .ref q_111, .ref q_121, .int 0, .int 0, .null, .int 0, .int 0, .int 0, .int 0])) := ⟨_, rfl⟩
  have hw : hW D ah s.heap ah_163 H_161 L_162 := by rw [eah_163]; exact hw
  have hc_164 : ah_163 mo = some (.inr (10, [.int 0, .int 0, .int 0, .int 0, .int 0, .ref q_1, .ref q_11, .ref q_21, .ref q_31, .ref q_41, .ref q_51, .ref q_61, .ref q_71, .ref q_81, .ref q_91, .ref q_101, .int 0, .ref q_111, .ref q_121, .int 0, .int 0, .null, .int 0, .int 0, .int 0, .int 0])) := by rw [eah_163]; exact hup_s
  have hc_165 := (show ah_163 q_121 = _ from (by rw [eah_163]; exact hup_n (hne_125.symm))).trans hc_160
  have hkp := mkA_o (mkA_s hkw hc_160 hne12) hc_159 eah_163
  refine lv_aload_n hx hb dX10_init_148 rfl (lv_at hl 0 rfl) ?_
  refine lv_sipush (v := 4096) hx hb dX10_init_149 (by decide) ?_
  refine h_newi hx hb (hts _ kA_int) hK hw 4096 (by decide) (by omega) (by rw [hR]; simp; try omega) (by rw [hR]; simp; try omega) dX10_init_152 (fun q_166 H_167 hqq_166 hw => ?_)
  obtain ⟨ah_168, eah_168⟩ : ∃ z9 : hA, z9 = hup ah_163 q_166 (.inl (dT 0, 4096, .inl (fun _ => 0))) := ⟨_, rfl⟩
  have hw : hW D ah s.heap ah_168 H_167 L_162 := by rw [eah_168]; exact hw
  have hne_170 : mo ≠ q_166 := h_fr hc_164 hqq_166
  have hc_169 := (show ah_168 mo = _ from (by rw [eah_168]; exact hup_n (hne_170))).trans hc_164
  have hc_q_166 : ah_168 q_166 = some (.inl (dT 0, 4096, .inl (fun _ => 0))) := by rw [eah_168]; exact hup_s
  obtain ⟨hkn, hne13⟩ := mkA_n hkp (ci := 10) hc_164 hqq_166 eah_168
  refine h_putF (ci := 10) (v := .ref q_166) (C := RX10) (T := TX10) (N := 26) hx hb hts kl_X10 tyX10 tyX10_ok nmX10 hown hK hw hc_169 rfl 21 (by decide) (hts _ kf_X10_49) rfl rfl hin rfl (tyX10_ok 21 (by decide)) rfl rfl (Nat.le_of_ble_eq_true rfl) dX10_init_154 (fun H_171 L_172 hw => ?_)
  obtain ⟨ah_173, eah_173⟩ : ∃ z9 : hA, z9 = hup ah_168 mo (.inr (10, [.int 0, .int 0, .int 0, .int 0, .int 0, .ref q_1, .ref q_11, .ref q_21, .ref q_31, .ref q_41, .ref q_51, .ref q_61, .ref q_71, .ref q_81, .ref q_91, .ref q_101, .int 0, .ref q_111, .ref q_121, .int 0, .int 0, .ref q_166, .int 0, .int 0, .int 0, .int 0])) := ⟨_, rfl⟩
  have hw : hW D ah s.heap ah_173 H_171 L_172 := by rw [eah_173]; exact hw
  have hc_174 : ah_173 mo = some (.inr (10, [.int 0, .int 0, .int 0, .int 0, .int 0, .ref q_1, .ref q_11, .ref q_21, .ref q_31, .ref q_41, .ref q_51, .ref q_61, .ref q_71, .ref q_81, .ref q_91, .ref q_101, .int 0, .ref q_111, .ref q_121, .int 0, .int 0, .ref q_166, .int 0, .int 0, .int 0, .int 0])) := by rw [eah_173]; exact hup_s
  have hc_175 := (show ah_173 q_166 = _ from (by rw [eah_173]; exact hup_n (hne_170.symm))).trans hc_q_166
  have hkp := mkA_o (mkA_s hkn hc_q_166 hne13) hc_169 eah_173
  rw [hQ]
  exact h_vret hx hb hr hlk hsz hw (by omega) (by omega) dX10_init_157 ⟨(va_up (va_up (va_up (va_up (va_up (va_up (va_up (va_up (va_up (va_up (va_up (va_up (va_up (va_up (fun _ => 0) 0 q_1) 1 q_11) 2 q_21) 3 q_31) 4 q_41) 5 q_51) 6 q_61) 7 q_71) 8 q_81) 9 q_91) 10 q_101) 11 q_111) 12 q_121) 13 q_166), (va_up (va_up (va_up (va_up (va_up (va_up (va_up (va_up (va_up (va_up (va_up (va_up (va_up (va_up (fun _ _ => 0) 0 (fun _ => 0)) 1 (fun _ => 0)) 2 (fun _ => 0)) 3 (fun _ => 0)) 4 (fun _ => 0)) 5 (fun _ => 0)) 6 (fun _ => 0)) 7 (fun _ => 0)) 8 (fun _ => 0)) 9 (fun _ => 0)) 10 (fun _ => 0)) 11 (fun _ => 0)) 12 (upd (upd (upd (upd (upd (upd (upd (fun _ => 0) 0 (-1)) 1 (-1)) 2 (-1)) 3 (-1)) 4 (-1)) 5 (-1)) 6 (-1))) 13 (fun _ => 0)), rfl, ⟨hc_174, (fun k hk => (hkp.1 k hk).1), hkp.2.1⟩, (fun k hk h12 => by rcases k with _ | _ | _ | _ | _ | _ | _ | _ | _ | _ | _ | _ | _ | _ | k <;> first | rfl | exact absurd rfl h12 | omega), (fun j hj => by rcases j with _ | _ | _ | _ | _ | _ | _ | j <;> first | rfl | omega), (fun k hk => (hkp.1 k hk).2), hkp.2.2⟩

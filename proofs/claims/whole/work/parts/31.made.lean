/-! Inspector and ShapeJudge: made -/
theorem shk_1 {dT : Nat → ClassId} {ah : hA} {a b : Nat} {e : va_E} {fs : List Value} (h : ah a = some e) (hk : shK dT e) (hb : ah b = some (.inr (1, fs))) : a ≠ b := by
  rcases hk with ⟨g, rfl⟩ | ⟨g, rfl⟩ | ⟨n, g, rfl⟩
  · exact h_ne h hb (by simp)
  · exact h_ne h hb (by simp)
  · exact h_ne h hb (by simp)
set_option maxHeartbeats 4000000 in
set_option maxRecDepth 100000 in
theorem c_X2_init (l : Launch) (D : va_G) (dT : Nat → ClassId) (ah : hA) (sz : Nat) (ins sh fd : Nat) (hin0 : ah ins = some (.inr (2, [.null, .null, .null, .int 0]))) : hMet l yX2_init cX2_init 3 none ({ frames := 2, cells := 1, slots := 2, locals := 40 }) D dT [.ref ins, .ref sh, .ref fd] ah sz (fun r ah2 => r = none ∧ ∃ mt : Nat, ah2 ins = some (.inr (2, [.ref sh, .ref fd, .ref mt, .int 0])) ∧ ah2 mt = some (.inr (3, [.int 0, .int 0])) ∧ ∀ a e9, ah a = some e9 → a ≠ ins → ah2 a = some e9) 1 2 := by
  refine h_met (by decide) (Nat.le_of_ble_eq_true rfl) ?_
  intro p e s m below meth c ls R Q args hav hR hQ hB hl hsz hw
  obtain ⟨hx, hb, hml, hr, hts, hown, hlk, hin, hK⟩ := hB
  have hown : s.vm.findClass RX2 = some m.cls := hown
  have hl : lv_has ls 3 [(0, .ref ins), (1, .ref sh), (2, .ref fd)] := hl
  refine lv_aload_n hx hb dX2_init_0 rfl (lv_at hl 0 rfl) ?_
  refine W.objInit hx hb hown (hts _ km_X2_3) (hts _ ki_obj) (hts _ ko_obj) rfl (by rw [hml]; exact hl.1) rfl dX2_init_1 (by rw [hR]; exact Nat.le_of_ble_eq_true rfl) (by rw [hR]; exact Nat.le_of_ble_eq_true rfl) ?_
  refine W.eq (g2 := F0 m 4 ls []) rfl ?_
  refine lv_aload_n hx hb dX2_init_4 rfl (lv_at hl 0 rfl) ?_
  refine lv_aload_n hx hb dX2_init_5 rfl (lv_at hl 1 rfl) ?_
  refine h_putF (ci := 2) (v := .ref sh) (C := RX2) (T := TX2) (N := 4) hx hb hts kl_X2 tyX2 tyX2_ok nmX2 hown hK hw hin0 rfl 0 (by decide) (hts _ kf_X2_9) rfl rfl hin rfl (tyX2_ok 0 (by decide)) rfl rfl (Nat.le_of_ble_eq_true rfl) dX2_init_6 (fun H_1 L_2 hw => ?_)
  obtain ⟨ah_3, eah_3⟩ : ∃ z9 : hA, z9 = hup ah ins (.inr (2, [.ref sh, .null, .null, .int 0])) := ⟨_, rfl⟩
  have hw : hW D ah s.heap ah_3 H_1 L_2 := by rw [eah_3]; exact hw
  have hc_4 : ah_3 ins = some (.inr (2, [.ref sh, .null, .null, .int 0])) := by rw [eah_3]; exact hup_s
  refine lv_aload_n hx hb dX2_init_9 rfl (lv_at hl 0 rfl) ?_
  refine lv_aload_n hx hb dX2_init_10 rfl (lv_at hl 2 rfl) ?_
  refine h_putF (ci := 2) (v := .ref fd) (C := RX2) (T := TX2) (N := 4) hx hb hts kl_X2 tyX2 tyX2_ok nmX2 hown hK hw hc_4 rfl 1 (by decide) (hts _ kf_X2_15) rfl rfl hin rfl (tyX2_ok 1 (by decide)) rfl rfl (Nat.le_of_ble_eq_true rfl) dX2_init_11 (fun H_5 L_6 hw => ?_)
  obtain ⟨ah_7, eah_7⟩ : ∃ z9 : hA, z9 = hup ah_3 ins (.inr (2, [.ref sh, .ref fd, .null, .int 0])) := ⟨_, rfl⟩
  have hw : hW D ah s.heap ah_7 H_5 L_6 := by rw [eah_7]; exact hw
  have hc_8 : ah_7 ins = some (.inr (2, [.ref sh, .ref fd, .null, .int 0])) := by rw [eah_7]; exact hup_s
  refine lv_aload_n hx hb dX2_init_14 rfl (lv_at hl 0 rfl) ?_
  refine h_new (ci := 3) (fs := [.int 0, .int 0]) (C := RX3) (T := TX3) (N := 2) hx hb hts kl_X3 tyX3 tyX3_ok hown (hts _ kc_X2_19) (hts _ ka_X3) (hts _ kn_X3) hK hw rfl (hdef_X3) (by rw [hR]; simp; try omega) (by rw [hR]; simp; try omega) dX2_init_15 (fun q_9 H_10 hqq_9 hw => ?_)
  obtain ⟨ah_11, eah_11⟩ : ∃ z9 : hA, z9 = hup ah_7 q_9 (.inr (3, [.int 0, .int 0])) := ⟨_, rfl⟩
  have hw : hW D ah s.heap ah_11 H_10 L_6 := by rw [eah_11]; exact hw
  have hne_13 : ins ≠ q_9 := h_fr hc_8 hqq_9
  have hc_12 := (show ah_11 ins = _ from (by rw [eah_11]; exact hup_n (hne_13))).trans hc_8
  have hc_q_9 : ah_11 q_9 = some (.inr (3, [.int 0, .int 0])) := by rw [eah_11]; exact hup_s
  refine lv_dup hx hb dX2_init_18 rfl ?_
  refine h_callIN (n := 0) (b := q_9) (As := []) (rest := [.ref q_9, .ref ins]) ⟨hx, hb, hml, hown, hts⟩ hK hw (c_X3_init l D dT ah_11 H_10.size q_9 0 0 hc_q_9) ko_X3_init (List.mem_of_getElem? (i := 37) rfl) ki_X3_init kn_X3 rfl (by decide +kernel) rfl hl.1 rfl (by simp [Value.category]) dX2_init_19 (by rw [hR]; exact ⟨rfl, rfl, Nat.le_of_ble_eq_true rfl, Nat.le_of_ble_eq_true rfl, (by dsimp only; omega), (by dsimp only; omega)⟩) (fun r_14 ah_15 H_16 L_17 st_18 hp hw hst => ?_)
  obtain ⟨rfl, rfl⟩ := hp
  have hst : st_18 = [.ref q_9, .ref ins] := hst
  subst hst
  refine h_putF (ci := 2) (v := .ref q_9) (C := RX2) (T := TX2) (N := 4) hx hb hts kl_X2 tyX2 tyX2_ok nmX2 hown hK hw hc_12 rfl 2 (by decide) (hts _ kf_X2_22) rfl rfl hin rfl (tyX2_ok 2 (by decide)) rfl rfl (Nat.le_of_ble_eq_true rfl) dX2_init_22 (fun H_19 L_20 hw => ?_)
  obtain ⟨ah_21, eah_21⟩ : ∃ z9 : hA, z9 = hup ah_11 ins (.inr (2, [.ref sh, .ref fd, .ref q_9, .int 0])) := ⟨_, rfl⟩
  have hw : hW D ah s.heap ah_21 H_19 L_20 := by rw [eah_21]; exact hw
  have hc_22 : ah_21 ins = some (.inr (2, [.ref sh, .ref fd, .ref q_9, .int 0])) := by rw [eah_21]; exact hup_s
  have hc_23 := (show ah_21 q_9 = _ from (by rw [eah_21]; exact hup_n (hne_13.symm))).trans hc_q_9
  rw [hQ]
  exact h_vret hx hb hr hlk hsz hw (by simp) (by simp) dX2_init_25 ⟨rfl, q_9, hc_22, hc_23, (fun a e9 h1 h2 => (by have g9_0 : ah_3 a = some e9 := (by rw [eah_3]; exact (hup_n h2).trans h1); have g9_1 : ah_7 a = some e9 := (by rw [eah_7]; exact (hup_n h2).trans g9_0); have z9_2 : a ≠ q_9 := h_fr g9_1 hqq_9; have g9_2 : ah_11 a = some e9 := (by rw [eah_11]; exact (hup_n z9_2).trans g9_1); have g9_3 : ah_21 a = some e9 := (by rw [eah_21]; exact (hup_n h2).trans g9_2); exact g9_3))⟩

set_option maxHeartbeats 4000000 in
set_option maxRecDepth 100000 in
theorem c_X9_init (l : Launch) (D : va_G) (dT : Nat → ClassId) (ah : hA) (sz : Nat) (sj : Nat) (hsj : ah sj = some (.inr (9, [.null, .null, .null, .int 0]))) : hMet l yX9_init cX9_init 1 none ({ frames := 3, cells := 19, slots := 261, locals := 62 }) D dT [.ref sj] ah sz (fun r ah2 => r = none ∧ ∃ (sh fd ins pa mt : Nat) (RO RA : Nat → Nat), cjA dT ah2 sj sh fd ins pa mt RO RA (fun _ => 32) 0 0 0 0 0 (fun _ _ => 0) 0 (fillF (fun _ => 0) (-1) 7) false ∧ ∀ a e9, ah a = some e9 → a ≠ sj → ah2 a = some e9) 19 261 := by
  refine h_met (by decide) (Nat.le_of_ble_eq_true rfl) ?_
  intro p e s m below meth c ls R Q args hav hR hQ hB hl hsz hw
  obtain ⟨hx, hb, hml, hr, hts, hown, hlk, hin, hK⟩ := hB
  have hown : s.vm.findClass RX9 = some m.cls := hown
  have hl : lv_has ls 1 [(0, .ref sj)] := hl
  refine lv_aload_n hx hb dX9_init_0 rfl (lv_at hl 0 rfl) ?_
  refine W.objInit hx hb hown (hts _ km_X9_1) (hts _ ki_obj) (hts _ ko_obj) rfl (by rw [hml]; exact hl.1) rfl dX9_init_1 (by rw [hR]; exact Nat.le_of_ble_eq_true rfl) (by rw [hR]; exact Nat.le_of_ble_eq_true rfl) ?_
  refine W.eq (g2 := F0 m 4 ls []) rfl ?_
  refine lv_aload_n hx hb dX9_init_4 rfl (lv_at hl 0 rfl) ?_
  refine h_new (ci := 8) (fs := [.null, .null, .null, .null, .null, .null, .null, .int 0]) (C := RX8) (T := TX8) (N := 8) hx hb hts kl_X8 tyX8 tyX8_ok hown (hts _ kc_X9_7) (hts _ ka_X8) (hts _ kn_X8) hK hw rfl (hdef_X8) (by rw [hR]; dsimp only; omega) (by rw [hR]; dsimp only; omega) dX9_init_5 (fun q_1 H_2 hqq_1 hw => ?_)
  obtain ⟨ah_3, eah_3⟩ : ∃ z9 : hA, z9 = hup ah q_1 (.inr (8, [.null, .null, .null, .null, .null, .null, .null, .int 0])) := ⟨_, rfl⟩
  have hw : hW D ah s.heap ah_3 H_2 [] := by rw [eah_3]; exact hw
  have hne_5 : sj ≠ q_1 := h_fr hsj hqq_1
  have hc_4 := (show ah_3 sj = _ from (by rw [eah_3]; exact hup_n (hne_5))).trans hsj
  have hc_q_1 : ah_3 q_1 = some (.inr (8, [.null, .null, .null, .null, .null, .null, .null, .int 0])) := by rw [eah_3]; exact hup_s
  refine lv_dup hx hb dX9_init_8 rfl ?_
  refine h_callIN (n := 0) (b := q_1) (As := []) (rest := [.ref q_1, .ref sj]) ⟨hx, hb, hml, hown, hts⟩ hK hw (c_X8_init l D dT ah_3 H_2.size q_1 hc_q_1) ko_X8_init (List.mem_of_getElem? (i := 35) rfl) ki_X8_init kn_X8 rfl (by decide +kernel) rfl hl.1 rfl (by simp [Value.category]) dX9_init_9 (by rw [hR]; exact ⟨rfl, rfl, Nat.le_of_ble_eq_true rfl, Nat.le_of_ble_eq_true rfl, (by dsimp only; omega), (by dsimp only; omega)⟩) (fun r_6 ah_7 H_8 L_9 st_10 hp hw hst => ?_)
  obtain ⟨rfl, RO, RA, hs1, hf1⟩ := hp
  have hc_11 := hf1 _ _ hc_4 (hne_5)
  have hst : st_10 = [.ref q_1, .ref sj] := hst
  subst hst
  refine h_putF (ci := 9) (v := .ref q_1) (C := RX9) (T := TX9) (N := 4) hx hb hts kl_X9 tyX9 tyX9_ok nmX9 hown hK hw hc_11 rfl 0 (by decide) (hts _ kf_X9_10) rfl rfl hin rfl (tyX9_ok 0 (by decide)) rfl rfl (Nat.le_of_ble_eq_true rfl) dX9_init_12 (fun H_12 L_13 hw => ?_)
  obtain ⟨ah_14, eah_14⟩ : ∃ z9 : hA, z9 = hup ah_7 sj (.inr (9, [.ref q_1, .null, .null, .int 0])) := ⟨_, rfl⟩
  have hw : hW D ah s.heap ah_14 H_12 L_13 := by rw [eah_14]; exact hw
  have hc_15 : ah_14 sj = some (.inr (9, [.ref q_1, .null, .null, .int 0])) := by rw [eah_14]; exact hup_s
  have hc_16 := (show ah_14 q_1 = _ from (by rw [eah_14]; exact hup_n (hne_5.symm))).trans hs1.1
  refine lv_aload_n hx hb dX9_init_15 rfl (lv_at hl 0 rfl) ?_
  refine h_new (ci := 1) (fs := [.int 0, .null]) (C := RX1) (T := TX1) (N := 2) hx hb hts kl_X1 tyX1 tyX1_ok hown (hts _ kc_X9_16) (hts _ ka_X1) (hts _ kn_X1) hK hw rfl (hdef_X1) (by rw [hR]; dsimp only; omega) (by rw [hR]; dsimp only; omega) dX9_init_16 (fun q_17 H_18 hqq_17 hw => ?_)
  obtain ⟨ah_19, eah_19⟩ : ∃ z9 : hA, z9 = hup ah_14 q_17 (.inr (1, [.int 0, .null])) := ⟨_, rfl⟩
  have hw : hW D ah s.heap ah_19 H_18 L_13 := by rw [eah_19]; exact hw
  have hne_21 : sj ≠ q_17 := h_fr hc_15 hqq_17
  have hc_20 := (show ah_19 sj = _ from (by rw [eah_19]; exact hup_n (hne_21))).trans hc_15
  have hne_23 : q_1 ≠ q_17 := h_fr hc_16 hqq_17
  have hc_22 := (show ah_19 q_1 = _ from (by rw [eah_19]; exact hup_n (hne_23))).trans hc_16
  have hc_q_17 : ah_19 q_17 = some (.inr (1, [.int 0, .null])) := by rw [eah_19]; exact hup_s
  refine lv_dup hx hb dX9_init_19 rfl ?_
  have hv_24 := shA_hup_o (e := .inr (9, [.ref q_1, .null, .null, .int 0])) hs1 hc_11 (by unfold shK; simp)
  rw [← eah_14] at hv_24
  have hv_25 := shA_ext (show ext _ ah_19 from by rw [eah_19]; exact ext_new hqq_17) hv_24
  have hRAb := fun (k : Nat) (hk : k < 7) => (hv_25.2.1 k hk).2.1
  refine h_callI (n := 0) (b := q_17) (As := []) (rest := [.ref q_17, .ref sj]) ⟨hx, hb, hml, hown, hts⟩ hK hw (c_X1_init l D dT ah_19 H_18.size q_17 hc_q_17) ko_X1_init km_X9_18 ki_X1_init kn_X1 rfl (by decide +kernel) rfl hl.1 rfl (by simp [Value.category]) dX9_init_20 (by rw [hR]; exact ⟨rfl, rfl, Nat.le_of_ble_eq_true rfl, Nat.le_of_ble_eq_true rfl, (by dsimp only; omega), (by dsimp only; omega)⟩) (fun r_26 ah_27 H_28 L_29 st_30 hp hw hst => ?_)
  obtain ⟨rfl, pa, hpa0, hpan, hpa1, hfd1, hf2⟩ := hp
  have hc_31 := (hf2 _ (h_ne hc_20 hc_q_17 (by simp)) (h_fr hc_20 hpa0)).trans hc_20
  have hc_32 := (hf2 _ (h_ne hc_22 hc_q_17 (by simp)) (h_fr hc_22 hpa0)).trans hc_22
  have hf3 : ∀ a e9, ah_19 a = some e9 → a ≠ q_17 → ah_27 a = some e9 := fun a e9 h1 h2 => (hf2 a h2 (h_fr h1 hpa0)).trans h1
  have hst : st_30 = [.ref q_17, .ref sj] := hst
  subst hst
  refine h_putF (ci := 9) (v := .ref q_17) (C := RX9) (T := TX9) (N := 4) hx hb hts kl_X9 tyX9 tyX9_ok nmX9 hown hK hw hc_31 rfl 1 (by decide) (hts _ kf_X9_19) rfl rfl hin rfl (tyX9_ok 1 (by decide)) rfl rfl (Nat.le_of_ble_eq_true rfl) dX9_init_23 (fun H_33 L_34 hw => ?_)
  obtain ⟨ah_35, eah_35⟩ : ∃ z9 : hA, z9 = hup ah_27 sj (.inr (9, [.ref q_1, .ref q_17, .null, .int 0])) := ⟨_, rfl⟩
  have hw : hW D ah s.heap ah_35 H_33 L_34 := by rw [eah_35]; exact hw
  have hc_36 : ah_35 sj = some (.inr (9, [.ref q_1, .ref q_17, .null, .int 0])) := by rw [eah_35]; exact hup_s
  have hc_37 := (show ah_35 q_1 = _ from (by rw [eah_35]; exact hup_n (hne_5.symm))).trans hc_32
  have hc_38 := (show ah_35 q_17 = _ from (by rw [eah_35]; exact hup_n (hne_21.symm))).trans hfd1
  have hc_39 := (show ah_35 pa = _ from (by rw [eah_35]; exact hup_n (h_ne hpa1 hc_31 (by simp)))).trans hpa1
  refine lv_aload_n hx hb dX9_init_26 rfl (lv_at hl 0 rfl) ?_
  refine h_new (ci := 2) (fs := [.null, .null, .null, .int 0]) (C := RX2) (T := TX2) (N := 4) hx hb hts kl_X2 tyX2 tyX2_ok hown (hts _ kc_X9_23) (hts _ ka_X2) (hts _ kn_X2) hK hw rfl (hdef_X2) (by rw [hR]; dsimp only; omega) (by rw [hR]; dsimp only; omega) dX9_init_27 (fun q_40 H_41 hqq_40 hw => ?_)
  obtain ⟨ah_42, eah_42⟩ : ∃ z9 : hA, z9 = hup ah_35 q_40 (.inr (2, [.null, .null, .null, .int 0])) := ⟨_, rfl⟩
  have hw : hW D ah s.heap ah_42 H_41 L_34 := by rw [eah_42]; exact hw
  have hne_44 : sj ≠ q_40 := h_fr hc_36 hqq_40
  have hc_43 := (show ah_42 sj = _ from (by rw [eah_42]; exact hup_n (hne_44))).trans hc_36
  have hne_46 : q_1 ≠ q_40 := h_fr hc_37 hqq_40
  have hc_45 := (show ah_42 q_1 = _ from (by rw [eah_42]; exact hup_n (hne_46))).trans hc_37
  have hne_48 : q_17 ≠ q_40 := h_fr hc_38 hqq_40
  have hc_47 := (show ah_42 q_17 = _ from (by rw [eah_42]; exact hup_n (hne_48))).trans hc_38
  have hne_50 : pa ≠ q_40 := h_fr hc_39 hqq_40
  have hc_49 := (show ah_42 pa = _ from (by rw [eah_42]; exact hup_n (hne_50))).trans hc_39
  have hc_q_40 : ah_42 q_40 = some (.inr (2, [.null, .null, .null, .int 0])) := by rw [eah_42]; exact hup_s
  refine lv_dup hx hb dX9_init_30 rfl ?_
  refine lv_aload_n hx hb dX9_init_31 rfl (lv_at hl 0 rfl) ?_
  refine h_get (ci := 9) (v := .ref q_1) (C := RX9) (T := TX9) (N := 4) hx hb hts kl_X9 hown hK hw hc_43 rfl 0 (by decide) (hts _ kf_X9_10) rfl rfl dX9_init_32 ?_
  refine lv_aload_n hx hb dX9_init_35 rfl (lv_at hl 0 rfl) ?_
  refine h_get (ci := 9) (v := .ref q_17) (C := RX9) (T := TX9) (N := 4) hx hb hts kl_X9 hown hK hw hc_43 rfl 1 (by decide) (hts _ kf_X9_19) rfl rfl dX9_init_36 ?_
  refine h_callI (n := 2) (b := q_40) (As := [.ref q_1, .ref q_17]) (rest := [.ref q_40, .ref sj]) ⟨hx, hb, hml, hown, hts⟩ hK hw (c_X2_init l D dT ah_42 H_41.size q_40 q_1 q_17 hc_q_40) ko_X2_init km_X9_25 ki_X2_init kn_X2 rfl (by decide +kernel) rfl hl.1 rfl (by simp [Value.category]) dX9_init_39 (by rw [hR]; exact ⟨rfl, rfl, Nat.le_of_ble_eq_true rfl, Nat.le_of_ble_eq_true rfl, (by dsimp only; omega), (by dsimp only; omega)⟩) (fun r_51 ah_52 H_53 L_54 st_55 hp hw hst => ?_)
  obtain ⟨rfl, mt, hin1, hmt1, hf4⟩ := hp
  have hc_56 := hf4 _ _ hc_43 (hne_44)
  have hc_57 := hf4 _ _ hc_45 (hne_46)
  have hc_58 := hf4 _ _ hc_47 (hne_48)
  have hc_59 := hf4 _ _ hc_49 (hne_50)
  have hst : st_55 = [.ref q_40, .ref sj] := hst
  subst hst
  refine h_putF (ci := 9) (v := .ref q_40) (C := RX9) (T := TX9) (N := 4) hx hb hts kl_X9 tyX9 tyX9_ok nmX9 hown hK hw hc_56 rfl 2 (by decide) (hts _ kf_X9_28) rfl rfl hin rfl (tyX9_ok 2 (by decide)) rfl rfl (Nat.le_of_ble_eq_true rfl) dX9_init_42 (fun H_60 L_61 hw => ?_)
  obtain ⟨ah_62, eah_62⟩ : ∃ z9 : hA, z9 = hup ah_52 sj (.inr (9, [.ref q_1, .ref q_17, .ref q_40, .int 0])) := ⟨_, rfl⟩
  have hw : hW D ah s.heap ah_62 H_60 L_61 := by rw [eah_62]; exact hw
  have hc_63 : ah_62 sj = some (.inr (9, [.ref q_1, .ref q_17, .ref q_40, .int 0])) := by rw [eah_62]; exact hup_s
  have hc_64 := (show ah_62 q_1 = _ from (by rw [eah_62]; exact hup_n (hne_5.symm))).trans hc_57
  have hc_65 := (show ah_62 q_17 = _ from (by rw [eah_62]; exact hup_n (hne_21.symm))).trans hc_58
  have hc_66 := (show ah_62 pa = _ from (by rw [eah_62]; exact hup_n (h_ne hc_59 hc_56 (by simp)))).trans hc_59
  have hc_67 := (show ah_62 q_40 = _ from (by rw [eah_62]; exact hup_n (hne_44.symm))).trans hin1
  have hc_68 := (show ah_62 mt = _ from (by rw [eah_62]; exact hup_n (h_ne hmt1 hc_56 (by simp)))).trans hmt1
  have hv_69 := shA_hup_o (e := .inr (9, [.ref q_1, .null, .null, .int 0])) hs1 hc_11 (by unfold shK; simp)
  rw [← eah_14] at hv_69
  have hv_70 := shA_ext (show ext _ ah_19 from by rw [eah_19]; exact ext_new hqq_17) hv_69
  have hv_71 := shA_kp (fun a9 e9 h9 hk9 => hf3 a9 e9 h9 (shk_1 h9 hk9 hc_q_17)) hv_70
  have hv_72 := shA_hup_o (e := .inr (9, [.ref q_1, .ref q_17, .null, .int 0])) hv_71 hc_31 (by unfold shK; simp)
  rw [← eah_35] at hv_72
  have hv_73 := shA_ext (show ext _ ah_42 from by rw [eah_42]; exact ext_new hqq_40) hv_72
  have hv_74 := shA_kp (fun a9 e9 h9 hk9 => hf4 a9 e9 h9 (shk_2 h9 hk9 hc_q_40)) hv_73
  have hv_75 := shA_hup_o (e := .inr (9, [.ref q_1, .ref q_17, .ref q_40, .int 0])) hv_74 hc_56 (by unfold shK; simp)
  rw [← eah_62] at hv_75
  have hpaR : ∀ k, k < 7 → RA k ≠ pa := fun k hk => h_fr (hRAb k hk) hpa0
  rw [hQ]
  exact h_vret hx hb hr hlk hsz hw (by omega) (by omega) dX9_init_45 ⟨rfl, q_1, q_17, q_40, pa, mt, RO, RA, ⟨hc_63, ⟨0, 0, 0, ⟨hc_67, hc_65, hc_66, hc_68⟩⟩, hv_75, hpaR⟩, (fun a e9 h1 h2 => (by have z9_0 : a ≠ q_1 := h_fr h1 hqq_1; have g9_0 : ah_3 a = some e9 := (by rw [eah_3]; exact (hup_n z9_0).trans h1); have g9_1 : ah_7 a = some e9 := hf1 a e9 g9_0 z9_0; have g9_2 : ah_14 a = some e9 := (by rw [eah_14]; exact (hup_n h2).trans g9_1); have z9_3 : a ≠ q_17 := h_fr g9_2 hqq_17; have g9_3 : ah_19 a = some e9 := (by rw [eah_19]; exact (hup_n z9_3).trans g9_2); have g9_4 : ah_27 a = some e9 := hf3 a e9 g9_3 z9_3; have g9_5 : ah_35 a = some e9 := (by rw [eah_35]; exact (hup_n h2).trans g9_4); have z9_6 : a ≠ q_40 := h_fr g9_5 hqq_40; have g9_6 : ah_42 a = some e9 := (by rw [eah_42]; exact (hup_n z9_6).trans g9_5); have g9_7 : ah_52 a = some e9 := hf4 a e9 g9_6 z9_6; have g9_8 : ah_62 a = some e9 := (by rw [eah_62]; exact (hup_n h2).trans g9_7); exact g9_8))⟩

/-! Ring: made, and a segment added -/
theorem mx0_n {k : Nat} (h : k < 2 ^ 31) : (if (0 : Int32) < nI k then nI k else 0) = nI k := by
  by_cases h0 : k = 0
  · subst h0; simp [nI_0]
  · rw [if_pos]
    rw [← nI_0]
    exact nI_lt (by omega) h
set_option maxHeartbeats 4000000 in
set_option maxRecDepth 100000 in
theorem c_X5_init (l : Launch) (D : va_G) (dT : Nat → ClassId) (ah : hA) (sz : Nat) (rg k : Nat) (pt rn : Int32) (hk : k ≤ 100000) (hrg : ah rg = some (.inr (5, [.int 0, .int 0, .null, .null, .int 0, .int 0, .int 0]))) : hMet l yX5_init cX5_init 4 none ({ frames := 2, cells := 2, slots := (4 + k), locals := 40 }) D dT [.ref rg, .int pt, .int rn, .int (nI k)] ah sz (fun r ah2 => r = none ∧ ∃ q1 q2 : Nat, ah q1 = none ∧ ah q2 = none ∧ q1 ≠ rg ∧ q2 ≠ rg ∧ ah2 rg = some (.inr (5, [.int pt, .int rn, .ref q1, .ref q2, .int 0, .int 0, .int 0])) ∧ ah2 q1 = some (.inr (0, [.int 1000000000, .int 1000000000, .int (-1000000000), .int (-1000000000)])) ∧ ah2 q2 = some (.inl (dT 2, k, .inr (.inr (.inr (.inr (fun _ => none)))))) ∧ ∀ a, a ≠ rg → a ≠ q1 → a ≠ q2 → ah2 a = ah a) 2 (4 + k) := by
  refine h_met (by decide) (Nat.le_of_ble_eq_true rfl) ?_
  intro p e s m below meth c ls R Q args hav hR hQ hB hl hsz hw
  obtain ⟨hx, hb, hml, hr, hts, hown, hlk, hin, hK⟩ := hB
  have hown : s.vm.findClass RX5 = some m.cls := hown
  have hl : lv_has ls 4 [(0, .ref rg), (1, .int pt), (2, .int rn), (3, .int (nI k))] := hl
  refine lv_aload_n hx hb dX5_init_0 rfl (lv_at hl 0 rfl) ?_
  refine W.objInit hx hb hown (hts _ km_X5_1) (hts _ ki_obj) (hts _ ko_obj) rfl (by rw [hml]; exact hl.1) rfl dX5_init_1 (by rw [hR]; exact Nat.le_of_ble_eq_true rfl) (by rw [hR]; exact Nat.le_of_ble_eq_true rfl) ?_
  refine W.eq (g2 := F0 m 4 ls []) rfl ?_
  refine lv_aload_n hx hb dX5_init_4 rfl (lv_at hl 0 rfl) ?_
  refine lv_iload_n hx hb dX5_init_5 rfl (lv_at hl 1 rfl) ?_
  refine h_putF (ci := 5) (v := .int pt) (C := RX5) (T := TX5) (N := 7) hx hb hts kl_X5 tyX5 tyX5_ok nmX5 hown hK hw hrg rfl 0 (by decide) (hts _ kf_X5_7) rfl rfl hin rfl (tyX5_ok 0 (by decide)) rfl rfl (Nat.le_of_ble_eq_true rfl) dX5_init_6 (fun H_1 L_2 hw => ?_)
  obtain ⟨ah_3, eah_3⟩ : ∃ z9 : hA, z9 = hup ah rg (.inr (5, [.int pt, .int 0, .null, .null, .int 0, .int 0, .int 0])) := ⟨_, rfl⟩
  have hw : hW D ah s.heap ah_3 H_1 L_2 := by rw [eah_3]; exact hw
  have hc_4 : ah_3 rg = some (.inr (5, [.int pt, .int 0, .null, .null, .int 0, .int 0, .int 0])) := by rw [eah_3]; exact hup_s
  refine lv_aload_n hx hb dX5_init_9 rfl (lv_at hl 0 rfl) ?_
  refine lv_iload_n hx hb dX5_init_10 rfl (lv_at hl 2 rfl) ?_
  refine h_putF (ci := 5) (v := .int rn) (C := RX5) (T := TX5) (N := 7) hx hb hts kl_X5 tyX5 tyX5_ok nmX5 hown hK hw hc_4 rfl 1 (by decide) (hts _ kf_X5_13) rfl rfl hin rfl (tyX5_ok 1 (by decide)) rfl rfl (Nat.le_of_ble_eq_true rfl) dX5_init_11 (fun H_5 L_6 hw => ?_)
  obtain ⟨ah_7, eah_7⟩ : ∃ z9 : hA, z9 = hup ah_3 rg (.inr (5, [.int pt, .int rn, .null, .null, .int 0, .int 0, .int 0])) := ⟨_, rfl⟩
  have hw : hW D ah s.heap ah_7 H_5 L_6 := by rw [eah_7]; exact hw
  have hc_8 : ah_7 rg = some (.inr (5, [.int pt, .int rn, .null, .null, .int 0, .int 0, .int 0])) := by rw [eah_7]; exact hup_s
  refine lv_aload_n hx hb dX5_init_14 rfl (lv_at hl 0 rfl) ?_
  refine h_new (ci := 0) (fs := [.int 0, .int 0, .int 0, .int 0]) (C := RX0) (T := TX0) (N := 4) hx hb hts kl_X0 tyX0 tyX0_ok hown (hts _ kc_X5_16) (hts _ ka_X0) (hts _ kn_X0) hK hw rfl (hdef_X0) (by rw [hR]; simp) (by rw [hR]; simp; try omega) dX5_init_15 (fun q_9 H_10 hqq_9 hw => ?_)
  obtain ⟨ah_11, eah_11⟩ : ∃ z9 : hA, z9 = hup ah_7 q_9 (.inr (0, [.int 0, .int 0, .int 0, .int 0])) := ⟨_, rfl⟩
  have hw : hW D ah s.heap ah_11 H_10 L_6 := by rw [eah_11]; exact hw
  have hne_13 : rg ≠ q_9 := h_fr hc_8 hqq_9
  have hc_12 := (show ah_11 rg = _ from (by rw [eah_11]; exact hup_n (hne_13))).trans hc_8
  have hc_q_9 : ah_11 q_9 = some (.inr (0, [.int 0, .int 0, .int 0, .int 0])) := by rw [eah_11]; exact hup_s
  refine lv_dup hx hb dX5_init_18 rfl ?_
  refine h_callIN (n := 0) (b := q_9) (As := []) (rest := [.ref q_9, .ref rg]) ⟨hx, hb, hml, hown, hts⟩ hK hw (c_X0_init l D dT ah_11 H_10.size q_9 0 0 0 0 hc_q_9 ) ko_X0_init (List.mem_of_getElem? (i := 38) rfl) ki_X0_init kn_X0 rfl (by decide +kernel) rfl hl.1 rfl (by simp [Value.category]) dX5_init_19 (by rw [hR]; exact ⟨rfl, rfl, Nat.le_of_ble_eq_true rfl, Nat.le_of_ble_eq_true rfl, by simp, by simp; try omega⟩) (fun r_14 ah_15 H_16 L_17 st_18 hp hw hst => ?_)
  obtain ⟨rfl, eah_15⟩ := hp
  have hc_19 := (show ah_15 rg = _ from (by rw [eah_15]; exact hup_n (hne_13))).trans hc_12
  have hc_20 : ah_15 q_9 = some (.inr (0, [.int 1000000000, .int 1000000000, .int (-1000000000), .int (-1000000000)])) := by rw [eah_15]; exact hup_s
  have hst : st_18 = [.ref q_9, .ref rg] := hst
  subst hst
  refine h_putF (ci := 5) (v := .ref q_9) (C := RX5) (T := TX5) (N := 7) hx hb hts kl_X5 tyX5 tyX5_ok nmX5 hown hK hw hc_19 rfl 2 (by decide) (hts _ kf_X5_19) rfl rfl hin rfl (tyX5_ok 2 (by decide)) rfl rfl (Nat.le_of_ble_eq_true rfl) dX5_init_22 (fun H_21 L_22 hw => ?_)
  obtain ⟨ah_23, eah_23⟩ : ∃ z9 : hA, z9 = hup ah_15 rg (.inr (5, [.int pt, .int rn, .ref q_9, .null, .int 0, .int 0, .int 0])) := ⟨_, rfl⟩
  have hw : hW D ah s.heap ah_23 H_21 L_22 := by rw [eah_23]; exact hw
  have hc_24 : ah_23 rg = some (.inr (5, [.int pt, .int rn, .ref q_9, .null, .int 0, .int 0, .int 0])) := by rw [eah_23]; exact hup_s
  have hc_25 := (show ah_23 q_9 = _ from (by rw [eah_23]; exact hup_n (hne_13.symm))).trans hc_20
  refine lv_aload_n hx hb dX5_init_25 rfl (lv_at hl 0 rfl) ?_
  refine lv_iconst (v := 0) hx hb dX5_init_26 (by decide) ?_
  refine lv_iload_n hx hb dX5_init_27 rfl (lv_at hl 3 rfl) ?_
  refine va_mmax hx hb (by rw [hml]; exact hl.1.symm) hown (hts _ km_X5_23) (hts _ kt_J9_max_7cf53) (hts _ kn_J9) (hts _ ko_Math_max) (by rw [hR]; exact Nat.le_of_ble_eq_true rfl) (by rw [hR]; exact Nat.le_of_ble_eq_true rfl) (by rw [hR]; simp) (by rw [hR]; simp; try omega) dX5_init_28 ?_
  refine lv_topi (fun t_26 et_26 => ?_)
  obtain rfl : t_26 = nI k := et_26.trans (mx0_n (by omega))
  refine h_newq hx hb hown (hts _ kc_X5_29) hK.2.2.1 hK hw 2 rfl k rfl (by omega) (by rw [hR]; simp) (by rw [hR]; simp; try omega) dX5_init_31 (fun q_27 H_28 hqq_27 hw => ?_)
  obtain ⟨ah_29, eah_29⟩ : ∃ z9 : hA, z9 = hup ah_23 q_27 (.inl (dT 2, k, .inr (.inr (.inr (.inr (fun _ => none)))))) := ⟨_, rfl⟩
  have hw : hW D ah s.heap ah_29 H_28 L_22 := by rw [eah_29]; exact hw
  have hne_31 : rg ≠ q_27 := h_fr hc_24 hqq_27
  have hc_30 := (show ah_29 rg = _ from (by rw [eah_29]; exact hup_n (hne_31))).trans hc_24
  have hne_33 : q_9 ≠ q_27 := h_fr hc_25 hqq_27
  have hc_32 := (show ah_29 q_9 = _ from (by rw [eah_29]; exact hup_n (hne_33))).trans hc_25
  have hc_q_27 : ah_29 q_27 = some (.inl (dT 2, k, .inr (.inr (.inr (.inr (fun _ => none)))))) := by rw [eah_29]; exact hup_s
  refine h_putF (ci := 5) (v := .ref q_27) (C := RX5) (T := TX5) (N := 7) hx hb hts kl_X5 tyX5 tyX5_ok nmX5 hown hK hw hc_30 rfl 3 (by decide) (hts _ kf_X5_31) rfl rfl hin rfl (tyX5_ok 3 (by decide)) rfl rfl (Nat.le_of_ble_eq_true rfl) dX5_init_34 (fun H_34 L_35 hw => ?_)
  obtain ⟨ah_36, eah_36⟩ : ∃ z9 : hA, z9 = hup ah_29 rg (.inr (5, [.int pt, .int rn, .ref q_9, .ref q_27, .int 0, .int 0, .int 0])) := ⟨_, rfl⟩
  have hw : hW D ah s.heap ah_36 H_34 L_35 := by rw [eah_36]; exact hw
  have hc_37 : ah_36 rg = some (.inr (5, [.int pt, .int rn, .ref q_9, .ref q_27, .int 0, .int 0, .int 0])) := by rw [eah_36]; exact hup_s
  have hc_38 := (show ah_36 q_9 = _ from (by rw [eah_36]; exact hup_n (hne_13.symm))).trans hc_32
  have hc_39 := (show ah_36 q_27 = _ from (by rw [eah_36]; exact hup_n (hne_31.symm))).trans hc_q_27
  rw [hQ]
  exact h_vret hx hb hr hlk hsz hw (by simp) (by simp; try omega) dX5_init_37 ⟨rfl, q_9, q_27, (by have hn : q_9 ≠ rg := h_ne hc_38 hc_37 (by simp); have h9 := hqq_9; subst_vars; simpa [hup, hn] using h9), (by have hn : q_27 ≠ rg := h_ne hc_39 hc_37 (by simp); have hn2 : q_27 ≠ q_9 := h_ne hc_39 hc_38 (by simp); have h9 := hqq_27; subst_vars; simpa [hup, hn, hn2] using h9), h_ne hc_38 hc_37 (by simp), h_ne hc_39 hc_37 (by simp), hc_37, hc_38, hc_39, fun a h1 h2 h3 => by subst_vars; simp [hup, h1, h2, h3]⟩

set_option maxHeartbeats 4000000 in
set_option maxRecDepth 100000 in
theorem c_X5_add (l : Launch) (D : va_G) (dT : Nat → ClassId) (ah : hA) (sz : Nat) (rg bx sa cap n : Nat) (pt rn df : Int32) (cl : Bool) (bb : Nat → Int32) (F : Nat → Option Nat) (G B : Nat → Nat) (S : Nat → Nat → Int32) (hg : rgAt dT ah rg bx sa cap n pt rn df cl bb F G B S) (g b9 : Nat) (T : Nat → Int32) (hncap : n < cap) (hgn : ∀ i, i < n → G i ≠ g) (hb9 : b9 ≠ bx) (heg : ah g = some (.inr (7, [.ref rg, .int (T 0), .int (T 1), .int (T 2), .int (T 3), .int (T 4), .ref b9, .null]))) (heb9 : ah b9 = some (.inr (0, [.int (T 5), .int (T 6), .int (T 7), .int (T 8)]))) : hMet l yX5_add cX5_add 2 none ({ frames := 2, cells := 0, slots := 0, locals := 46 }) D dT [.ref rg, .ref g] ah sz (fun r ah2 => r = none ∧ ah2 rg = some (.inr (5, [.int pt, .int rn, .ref bx, .ref sa, .int (nI (n + 1)), .int (bI cl), .int df])) ∧ ah2 bx = some (.inr (0, [.int (iMin (iMin (bb 0) (T 1)) (T 3)), .int (iMin (iMin (bb 1) (T 2)) (T 4)), .int (iMax (iMax (bb 2) (T 1)) (T 3)), .int (iMax (iMax (bb 3) (T 2)) (T 4))])) ∧ ah2 sa = some (.inl (dT 2, cap, .inr (.inr (.inr (.inr (va_up F n (some g))))))) ∧ ah2 g = some (.inr (7, [.ref rg, .int (T 0), .int (T 1), .int (T 2), .int (T 3), .int (T 4), .ref b9, if n = 0 then .null else .ref (G 0)])) ∧ (0 < n → ah2 (G (n - 1)) = some (.inr (7, [.ref rg, .int (S (n - 1) 0), .int (S (n - 1) 1), .int (S (n - 1) 2), .int (S (n - 1) 3), .int (S (n - 1) 4), .ref (B (n - 1)), .ref g]))) ∧ ∀ a, a ≠ rg → a ≠ bx → a ≠ sa → a ≠ g → (0 < n → a ≠ G (n - 1)) → ah2 a = ah a) 0 0 := by
  refine h_met (by decide) (Nat.le_of_ble_eq_true rfl) ?_
  intro p e s m below meth c ls R Q args hav hR hQ hB hl hsz hw
  obtain ⟨hx, hb, hml, hr, hts, hown, hlk, hin, hK⟩ := hB
  have hown : s.vm.findClass RX5 = some m.cls := hown
  have hl : lv_has ls 2 [(0, .ref rg), (1, .ref g)] := hl
  have hg0 := hg
  obtain ⟨hrg, hbx, hsa, hnc, hcp, hsg⟩ := hg
  refine lv_aload_n hx hb dX5_add_0 rfl (lv_at hl 0 rfl) ?_
  refine h_get (ci := 5) (v := .int (nI n)) (C := RX5) (T := TX5) (N := 7) hx hb hts kl_X5 hown hK hw hrg rfl 4 (by decide) (hts _ kf_X5_35) rfl rfl dX5_add_1 ?_
  refine lv_aload_n hx hb dX5_add_4 rfl (lv_at hl 0 rfl) ?_
  refine h_get (ci := 5) (v := .ref sa) (C := RX5) (T := TX5) (N := 7) hx hb hts kl_X5 hown hK hw hrg rfl 3 (by decide) (hts _ kf_X5_31) rfl rfl dX5_add_5 ?_
  refine h_alen hx hb hK hw 2 rfl hsa dX5_add_8 ?_
  refine lv_icmp_lt (tgt := 13) hx hb dX5_add_9 (by decide) (fun c_1 => ?_) (fun c_1 => ?_)
  · skip
    have c_1 : n < cap := (nI_ltx (by rfl) (by rfl) (by omega) (by omega)).mp c_1
    refine lv_aload_n hx hb dX5_add_13 rfl (lv_at hl 0 rfl) ?_
    refine h_get (ci := 5) (v := .int (nI n)) (C := RX5) (T := TX5) (N := 7) hx hb hts kl_X5 hown hK hw hrg rfl 4 (by decide) (hts _ kf_X5_35) rfl rfl dX5_add_14 ?_
    refine lv_if_le (tgt := 45) hx hb dX5_add_17 (by decide) (fun c_2 => ?_) (fun c_2 => ?_)
    · skip
      have c_2 : n ≤ 0 := (nI_lex (by rfl) (by decide) (by omega) (by omega)).mp c_2
      refine lv_aload_n hx hb dX5_add_45 rfl (lv_at hl 0 rfl) ?_
      refine h_get (ci := 5) (v := .ref sa) (C := RX5) (T := TX5) (N := 7) hx hb hts kl_X5 hown hK hw hrg rfl 3 (by decide) (hts _ kf_X5_31) rfl rfl dX5_add_46 ?_
      refine lv_aload_n hx hb dX5_add_49 rfl (lv_at hl 0 rfl) ?_
      refine h_get (ci := 5) (v := .int (nI n)) (C := RX5) (T := TX5) (N := 7) hx hb hts kl_X5 hown hK hw hrg rfl 4 (by decide) (hts _ kf_X5_35) rfl rfl dX5_add_50 ?_
      refine lv_aload_n hx hb dX5_add_53 rfl (lv_at hl 1 rfl) ?_
      refine h_aast hx hb hK hw 2 7 hsa rfl heg rfl n rfl (by omega) (by omega) dX5_add_54 (fun H_3 L_4 hw => ?_)
      obtain ⟨ah_5, eah_5⟩ : ∃ z9 : hA, z9 = hup ah sa (.inl (dT 2, cap, .inr (.inr (.inr (.inr (va_up F n (some g))))))) := ⟨_, rfl⟩
      have hw : hW D ah s.heap ah_5 H_3 L_4 := by rw [eah_5]; exact hw
      have hc_6 := (show ah_5 rg = _ from (by rw [eah_5]; exact hup_n (h_ne hrg hsa (by simp)))).trans hrg
      have hc_7 := (show ah_5 bx = _ from (by rw [eah_5]; exact hup_n (h_ne hbx hsa (by simp)))).trans hbx
      have hc_8 : ah_5 sa = some (.inl (dT 2, cap, .inr (.inr (.inr (.inr (va_up F n (some g))))))) := by rw [eah_5]; exact hup_s
      have hc_9 := (show ah_5 g = _ from (by rw [eah_5]; exact hup_n (h_ne heg hsa (by simp)))).trans heg
      have hc_10 := (show ah_5 b9 = _ from (by rw [eah_5]; exact hup_n (h_ne heb9 hsa (by simp)))).trans heb9
      refine lv_aload_n hx hb dX5_add_55 rfl (lv_at hl 0 rfl) ?_
      refine lv_dup hx hb dX5_add_56 rfl ?_
      refine h_get (ci := 5) (v := .int (nI n)) (C := RX5) (T := TX5) (N := 7) hx hb hts kl_X5 hown hK hw hc_6 rfl 4 (by decide) (hts _ kf_X5_35) rfl rfl dX5_add_57 ?_
      refine lv_iconst (v := 1) hx hb dX5_add_60 (by decide) ?_
      refine lv_iadd hx hb dX5_add_61 ?_
      refine lv_topi (fun t_11 et_11 => ?_)
      obtain rfl : t_11 = nI (n + 1) := et_11.trans (nI_c _ 1)
      refine h_put (ci := 5) (v := .int (nI (n + 1))) (C := RX5) (T := TX5) (N := 7) hx hb hts kl_X5 tyX5 tyX5_ok nmX5 hown hK hw hc_6 rfl 4 (by decide) (hts _ kf_X5_35) rfl rfl (tyX5_ok 4 (by decide)) rfl rfl (Nat.le_of_ble_eq_true rfl) dX5_add_62 (fun H_12 L_13 hw => ?_)
      obtain ⟨ah_14, eah_14⟩ : ∃ z9 : hA, z9 = hup ah_5 rg (.inr (5, [.int pt, .int rn, .ref bx, .ref sa, .int (nI (n + 1)), .int (bI cl), .int df])) := ⟨_, rfl⟩
      have hw : hW D ah s.heap ah_14 H_12 L_13 := by rw [eah_14]; exact hw
      have hc_15 : ah_14 rg = some (.inr (5, [.int pt, .int rn, .ref bx, .ref sa, .int (nI (n + 1)), .int (bI cl), .int df])) := by rw [eah_14]; exact hup_s
      have hc_16 := (show ah_14 bx = _ from (by rw [eah_14]; exact hup_n (h_ne hc_7 hc_6 (by simp)))).trans hc_7
      have hc_17 := (show ah_14 sa = _ from (by rw [eah_14]; exact hup_n (h_ne hc_8 hc_6 (by simp)))).trans hc_8
      have hc_18 := (show ah_14 g = _ from (by rw [eah_14]; exact hup_n (h_ne hc_9 hc_6 (by simp)))).trans hc_9
      have hc_19 := (show ah_14 b9 = _ from (by rw [eah_14]; exact hup_n (h_ne hc_10 hc_6 (by simp)))).trans hc_10
      refine lv_aload_n hx hb dX5_add_65 rfl (lv_at hl 0 rfl) ?_
      refine h_get (ci := 5) (v := .ref bx) (C := RX5) (T := TX5) (N := 7) hx hb hts kl_X5 hown hK hw hc_15 rfl 2 (by decide) (hts _ kf_X5_19) rfl rfl dX5_add_66 ?_
      refine lv_aload_n hx hb dX5_add_69 rfl (lv_at hl 1 rfl) ?_
      refine h_getN (ci := 7) (v := .int (T 1)) (C := RX7) (T := TX7) (N := 8) hx hb hts kl_X7 hown hK hw hc_18 rfl 2 (by decide) (va_Nw.use rfl (hK.2.1 _ (List.mem_of_getElem? (i := 19) rfl))) rfl rfl dX5_add_70 ?_
      refine lv_aload_n hx hb dX5_add_73 rfl (lv_at hl 1 rfl) ?_
      refine h_getN (ci := 7) (v := .int (T 2)) (C := RX7) (T := TX7) (N := 8) hx hb hts kl_X7 hown hK hw hc_18 rfl 3 (by decide) (va_Nw.use rfl (hK.2.1 _ (List.mem_of_getElem? (i := 22) rfl))) rfl rfl dX5_add_74 ?_
      refine h_callV (n := 2) (ci := 0) (b := bx) (As := [.int (T 1), .int (T 2)]) (rest := []) ⟨hx, hb, hml, hown, hts⟩ hK hw (c_X0_take l D dT ah_14 H_12.size bx (bb 0) (bb 1) (bb 2) (bb 3) hc_16 (T 1) (T 2)) ko_X0_take km_X5_48 ki_X0_take ks_X0_take kn_X0 (by decide +kernel) rfl hc_16 rfl hl.1 rfl (by simp [Value.category]) dX5_add_77 (by rw [hR]; exact ⟨rfl, rfl, by decide, by decide, by decide, by decide⟩) (fun r_20 ah_21 H_22 L_23 st_24 hp hw hst => ?_)
      obtain ⟨rfl, eah_21⟩ := hp
      have hc_25 := (show ah_21 rg = _ from (by rw [eah_21]; exact hup_n (h_ne hc_15 hc_16 (by simp)))).trans hc_15
      have hc_26 : ah_21 bx = some (.inr (0, [.int (iMin (bb 0) (T 1)), .int (iMin (bb 1) (T 2)), .int (iMax (bb 2) (T 1)), .int (iMax (bb 3) (T 2))])) := by rw [eah_21]; exact hup_s
      have hc_27 := (show ah_21 sa = _ from (by rw [eah_21]; exact hup_n (h_ne hc_17 hc_16 (by simp)))).trans hc_17
      have hc_28 := (show ah_21 g = _ from (by rw [eah_21]; exact hup_n (h_ne hc_18 hc_16 (by simp)))).trans hc_18
      have hc_29 := (show ah_21 b9 = _ from (by rw [eah_21]; exact hup_n (hb9))).trans hc_19
      have hst : st_24 = [] := hst
      subst hst
      refine lv_aload_n hx hb dX5_add_80 rfl (lv_at hl 0 rfl) ?_
      refine h_get (ci := 5) (v := .ref bx) (C := RX5) (T := TX5) (N := 7) hx hb hts kl_X5 hown hK hw hc_25 rfl 2 (by decide) (hts _ kf_X5_19) rfl rfl dX5_add_81 ?_
      refine lv_aload_n hx hb dX5_add_84 rfl (lv_at hl 1 rfl) ?_
      refine h_getN (ci := 7) (v := .int (T 3)) (C := RX7) (T := TX7) (N := 8) hx hb hts kl_X7 hown hK hw hc_28 rfl 4 (by decide) (va_Nw.use rfl (hK.2.1 _ (List.mem_of_getElem? (i := 25) rfl))) rfl rfl dX5_add_85 ?_
      refine lv_aload_n hx hb dX5_add_88 rfl (lv_at hl 1 rfl) ?_
      refine h_getN (ci := 7) (v := .int (T 4)) (C := RX7) (T := TX7) (N := 8) hx hb hts kl_X7 hown hK hw hc_28 rfl 5 (by decide) (va_Nw.use rfl (hK.2.1 _ (List.mem_of_getElem? (i := 27) rfl))) rfl rfl dX5_add_89 ?_
      refine h_callV (n := 2) (ci := 0) (b := bx) (As := [.int (T 3), .int (T 4)]) (rest := []) ⟨hx, hb, hml, hown, hts⟩ hK hw (c_X0_take l D dT ah_21 H_22.size bx (iMin (bb 0) (T 1)) (iMin (bb 1) (T 2)) (iMax (bb 2) (T 1)) (iMax (bb 3) (T 2)) hc_26 (T 3) (T 4)) ko_X0_take km_X5_48 ki_X0_take ks_X0_take kn_X0 (by decide +kernel) rfl hc_26 rfl hl.1 rfl (by simp [Value.category]) dX5_add_92 (by rw [hR]; exact ⟨rfl, rfl, by decide, by decide, by decide, by decide⟩) (fun r_30 ah_31 H_32 L_33 st_34 hp hw hst => ?_)
      obtain ⟨rfl, eah_31⟩ := hp
      have hc_35 := (show ah_31 rg = _ from (by rw [eah_31]; exact hup_n (h_ne hc_25 hc_26 (by simp)))).trans hc_25
      have hc_36 : ah_31 bx = some (.inr (0, [.int (iMin (iMin (bb 0) (T 1)) (T 3)), .int (iMin (iMin (bb 1) (T 2)) (T 4)), .int (iMax (iMax (bb 2) (T 1)) (T 3)), .int (iMax (iMax (bb 3) (T 2)) (T 4))])) := by rw [eah_31]; exact hup_s
      have hc_37 := (show ah_31 sa = _ from (by rw [eah_31]; exact hup_n (h_ne hc_27 hc_26 (by simp)))).trans hc_27
      have hc_38 := (show ah_31 g = _ from (by rw [eah_31]; exact hup_n (h_ne hc_28 hc_26 (by simp)))).trans hc_28
      have hc_39 := (show ah_31 b9 = _ from (by rw [eah_31]; exact hup_n (hb9))).trans hc_29
      have hst : st_34 = [] := hst
      subst hst
      rw [hQ]
      exact h_vret hx hb hr hlk hsz hw (by simp) (by simp) dX5_add_95 ⟨rfl, hc_35, hc_36, hc_37, (by rw [if_pos (show n = 0 by omega)]; exact hc_38), fun h => absurd h (by omega), fun a h1 h2 h3 h4 h5 => by subst_vars; simp [hup, h1, h2, h3, h4]⟩
    · skip
      have c_2 : ¬ (n ≤ 0) := (not_congr (nI_lex (by rfl) (by decide) (by omega) (by omega))).mp c_2
      refine lv_aload_n hx hb dX5_add_20 rfl (lv_at hl 0 rfl) ?_
      refine h_get (ci := 5) (v := .ref sa) (C := RX5) (T := TX5) (N := 7) hx hb hts kl_X5 hown hK hw hrg rfl 3 (by decide) (hts _ kf_X5_31) rfl rfl dX5_add_21 ?_
      refine lv_aload_n hx hb dX5_add_24 rfl (lv_at hl 0 rfl) ?_
      refine h_get (ci := 5) (v := .int (nI n)) (C := RX5) (T := TX5) (N := 7) hx hb hts kl_X5 hown hK hw hrg rfl 4 (by decide) (hts _ kf_X5_35) rfl rfl dX5_add_25 ?_
      refine lv_iconst (v := 1) hx hb dX5_add_28 (by decide) ?_
      refine lv_isub hx hb dX5_add_29 ?_
      refine lv_topi (fun t_40 et_40 => ?_)
      obtain rfl : t_40 = nI (n - 1) := et_40.trans (nI_s _ 1 (by omega))
      obtain ⟨hs_41_f, hs_41_g, hs_41_b⟩ := hsg (n - 1) (by omega)
      refine h_aald hx hb hK hw 2 rfl hsa (n - 1) rfl (by omega) (by omega) hs_41_f dX5_add_30 ?_
      refine lv_aload_n hx hb dX5_add_31 rfl (lv_at hl 1 rfl) ?_
      refine h_putN (ci := 7) (v := .ref g) (C := RX7) (T := TX7) (N := 8) hx hb hts kl_X7 tyX7 tyX7_ok nmX7 hown hK hw hs_41_g rfl 7 (by decide) (va_Nw.use rfl (hK.2.1 _ (List.mem_of_getElem? (i := 31) rfl))) rfl rfl (tyX7_ok 7 (by decide)) rfl rfl (Nat.le_of_ble_eq_true rfl) dX5_add_32 (fun H_42 L_43 hw => ?_)
      obtain ⟨ah_44, eah_44⟩ : ∃ z9 : hA, z9 = hup ah (G (n - 1)) (.inr (7, [.ref rg, .int (S (n - 1) 0), .int (S (n - 1) 1), .int (S (n - 1) 2), .int (S (n - 1) 3), .int (S (n - 1) 4), .ref (B (n - 1)), .ref g])) := ⟨_, rfl⟩
      have hw : hW D ah s.heap ah_44 H_42 L_43 := by rw [eah_44]; exact hw
      have hc_45 := (show ah_44 rg = _ from (by rw [eah_44]; exact hup_n (h_ne hrg hs_41_g (by simp)))).trans hrg
      have hc_46 := (show ah_44 bx = _ from (by rw [eah_44]; exact hup_n (h_ne hbx hs_41_g (by simp)))).trans hbx
      have hc_47 := (show ah_44 sa = _ from (by rw [eah_44]; exact hup_n (h_ne hsa hs_41_g (by simp)))).trans hsa
      have hc_48 := (show ah_44 g = _ from (by rw [eah_44]; exact hup_n ((hgn (n - 1) (by omega)).symm))).trans heg
      have hc_49 := (show ah_44 b9 = _ from (by rw [eah_44]; exact hup_n (h_ne heb9 hs_41_g (by simp)))).trans heb9
      have hc_50 : ah_44 (G (n - 1)) = some (.inr (7, [.ref rg, .int (S (n - 1) 0), .int (S (n - 1) 1), .int (S (n - 1) 2), .int (S (n - 1) 3), .int (S (n - 1) 4), .ref (B (n - 1)), .ref g])) := by rw [eah_44]; exact hup_s
      refine lv_aload_n hx hb dX5_add_35 rfl (lv_at hl 1 rfl) ?_
      refine lv_aload_n hx hb dX5_add_36 rfl (lv_at hl 0 rfl) ?_
      refine h_get (ci := 5) (v := .ref sa) (C := RX5) (T := TX5) (N := 7) hx hb hts kl_X5 hown hK hw hc_45 rfl 3 (by decide) (hts _ kf_X5_31) rfl rfl dX5_add_37 ?_
      refine lv_iconst (v := 0) hx hb dX5_add_40 (by decide) ?_
      refine h_aald hx hb hK hw 2 rfl hc_47 0 (by decide) (by omega) (by omega) (hsg 0 (by omega)).1 dX5_add_41 ?_
      refine h_putN (ci := 7) (v := .ref (G 0)) (C := RX7) (T := TX7) (N := 8) hx hb hts kl_X7 tyX7 tyX7_ok nmX7 hown hK hw hc_48 rfl 7 (by decide) (va_Nw.use rfl (hK.2.1 _ (List.mem_of_getElem? (i := 31) rfl))) rfl rfl (tyX7_ok 7 (by decide)) rfl rfl (Nat.le_of_ble_eq_true rfl) dX5_add_42 (fun H_51 L_52 hw => ?_)
      obtain ⟨ah_53, eah_53⟩ : ∃ z9 : hA, z9 = hup ah_44 g (.inr (7, [.ref rg, .int (T 0), .int (T 1), .int (T 2), .int (T 3), .int (T 4), .ref b9, .ref (G 0)])) := ⟨_, rfl⟩
      have hw : hW D ah s.heap ah_53 H_51 L_52 := by rw [eah_53]; exact hw
      have hc_54 := (show ah_53 rg = _ from (by rw [eah_53]; exact hup_n (h_ne hc_45 hc_48 (by simp)))).trans hc_45
      have hc_55 := (show ah_53 bx = _ from (by rw [eah_53]; exact hup_n (h_ne hc_46 hc_48 (by simp)))).trans hc_46
      have hc_56 := (show ah_53 sa = _ from (by rw [eah_53]; exact hup_n (h_ne hc_47 hc_48 (by simp)))).trans hc_47
      have hc_57 : ah_53 g = some (.inr (7, [.ref rg, .int (T 0), .int (T 1), .int (T 2), .int (T 3), .int (T 4), .ref b9, .ref (G 0)])) := by rw [eah_53]; exact hup_s
      have hc_58 := (show ah_53 b9 = _ from (by rw [eah_53]; exact hup_n (h_ne hc_49 hc_48 (by simp)))).trans hc_49
      have hc_59 := (show ah_53 (G (n - 1)) = _ from (by rw [eah_53]; exact hup_n ((hgn (n - 1) (by omega)).symm.symm))).trans hc_50
      refine lv_aload_n hx hb dX5_add_45 rfl (lv_at hl 0 rfl) ?_
      refine h_get (ci := 5) (v := .ref sa) (C := RX5) (T := TX5) (N := 7) hx hb hts kl_X5 hown hK hw hc_54 rfl 3 (by decide) (hts _ kf_X5_31) rfl rfl dX5_add_46 ?_
      refine lv_aload_n hx hb dX5_add_49 rfl (lv_at hl 0 rfl) ?_
      refine h_get (ci := 5) (v := .int (nI n)) (C := RX5) (T := TX5) (N := 7) hx hb hts kl_X5 hown hK hw hc_54 rfl 4 (by decide) (hts _ kf_X5_35) rfl rfl dX5_add_50 ?_
      refine lv_aload_n hx hb dX5_add_53 rfl (lv_at hl 1 rfl) ?_
      refine h_aast hx hb hK hw 2 7 hc_56 rfl hc_57 rfl n rfl (by omega) (by omega) dX5_add_54 (fun H_60 L_61 hw => ?_)
      obtain ⟨ah_62, eah_62⟩ : ∃ z9 : hA, z9 = hup ah_53 sa (.inl (dT 2, cap, .inr (.inr (.inr (.inr (va_up F n (some g))))))) := ⟨_, rfl⟩
      have hw : hW D ah s.heap ah_62 H_60 L_61 := by rw [eah_62]; exact hw
      have hc_63 := (show ah_62 rg = _ from (by rw [eah_62]; exact hup_n (h_ne hc_54 hc_56 (by simp)))).trans hc_54
      have hc_64 := (show ah_62 bx = _ from (by rw [eah_62]; exact hup_n (h_ne hc_55 hc_56 (by simp)))).trans hc_55
      have hc_65 : ah_62 sa = some (.inl (dT 2, cap, .inr (.inr (.inr (.inr (va_up F n (some g))))))) := by rw [eah_62]; exact hup_s
      have hc_66 := (show ah_62 g = _ from (by rw [eah_62]; exact hup_n (h_ne hc_57 hc_56 (by simp)))).trans hc_57
      have hc_67 := (show ah_62 b9 = _ from (by rw [eah_62]; exact hup_n (h_ne hc_58 hc_56 (by simp)))).trans hc_58
      have hc_68 := (show ah_62 (G (n - 1)) = _ from (by rw [eah_62]; exact hup_n (h_ne hc_59 hc_56 (by simp)))).trans hc_59
      refine lv_aload_n hx hb dX5_add_55 rfl (lv_at hl 0 rfl) ?_
      refine lv_dup hx hb dX5_add_56 rfl ?_
      refine h_get (ci := 5) (v := .int (nI n)) (C := RX5) (T := TX5) (N := 7) hx hb hts kl_X5 hown hK hw hc_63 rfl 4 (by decide) (hts _ kf_X5_35) rfl rfl dX5_add_57 ?_
      refine lv_iconst (v := 1) hx hb dX5_add_60 (by decide) ?_
      refine lv_iadd hx hb dX5_add_61 ?_
      refine lv_topi (fun t_69 et_69 => ?_)
      obtain rfl : t_69 = nI (n + 1) := et_69.trans (nI_c _ 1)
      refine h_put (ci := 5) (v := .int (nI (n + 1))) (C := RX5) (T := TX5) (N := 7) hx hb hts kl_X5 tyX5 tyX5_ok nmX5 hown hK hw hc_63 rfl 4 (by decide) (hts _ kf_X5_35) rfl rfl (tyX5_ok 4 (by decide)) rfl rfl (Nat.le_of_ble_eq_true rfl) dX5_add_62 (fun H_70 L_71 hw => ?_)
      obtain ⟨ah_72, eah_72⟩ : ∃ z9 : hA, z9 = hup ah_62 rg (.inr (5, [.int pt, .int rn, .ref bx, .ref sa, .int (nI (n + 1)), .int (bI cl), .int df])) := ⟨_, rfl⟩
      have hw : hW D ah s.heap ah_72 H_70 L_71 := by rw [eah_72]; exact hw
      have hc_73 : ah_72 rg = some (.inr (5, [.int pt, .int rn, .ref bx, .ref sa, .int (nI (n + 1)), .int (bI cl), .int df])) := by rw [eah_72]; exact hup_s
      have hc_74 := (show ah_72 bx = _ from (by rw [eah_72]; exact hup_n (h_ne hc_64 hc_63 (by simp)))).trans hc_64
      have hc_75 := (show ah_72 sa = _ from (by rw [eah_72]; exact hup_n (h_ne hc_65 hc_63 (by simp)))).trans hc_65
      have hc_76 := (show ah_72 g = _ from (by rw [eah_72]; exact hup_n (h_ne hc_66 hc_63 (by simp)))).trans hc_66
      have hc_77 := (show ah_72 b9 = _ from (by rw [eah_72]; exact hup_n (h_ne hc_67 hc_63 (by simp)))).trans hc_67
      have hc_78 := (show ah_72 (G (n - 1)) = _ from (by rw [eah_72]; exact hup_n (h_ne hc_68 hc_63 (by simp)))).trans hc_68
      refine lv_aload_n hx hb dX5_add_65 rfl (lv_at hl 0 rfl) ?_
      refine h_get (ci := 5) (v := .ref bx) (C := RX5) (T := TX5) (N := 7) hx hb hts kl_X5 hown hK hw hc_73 rfl 2 (by decide) (hts _ kf_X5_19) rfl rfl dX5_add_66 ?_
      refine lv_aload_n hx hb dX5_add_69 rfl (lv_at hl 1 rfl) ?_
      refine h_getN (ci := 7) (v := .int (T 1)) (C := RX7) (T := TX7) (N := 8) hx hb hts kl_X7 hown hK hw hc_76 rfl 2 (by decide) (va_Nw.use rfl (hK.2.1 _ (List.mem_of_getElem? (i := 19) rfl))) rfl rfl dX5_add_70 ?_
      refine lv_aload_n hx hb dX5_add_73 rfl (lv_at hl 1 rfl) ?_
      refine h_getN (ci := 7) (v := .int (T 2)) (C := RX7) (T := TX7) (N := 8) hx hb hts kl_X7 hown hK hw hc_76 rfl 3 (by decide) (va_Nw.use rfl (hK.2.1 _ (List.mem_of_getElem? (i := 22) rfl))) rfl rfl dX5_add_74 ?_
      refine h_callV (n := 2) (ci := 0) (b := bx) (As := [.int (T 1), .int (T 2)]) (rest := []) ⟨hx, hb, hml, hown, hts⟩ hK hw (c_X0_take l D dT ah_72 H_70.size bx (bb 0) (bb 1) (bb 2) (bb 3) hc_74 (T 1) (T 2)) ko_X0_take km_X5_48 ki_X0_take ks_X0_take kn_X0 (by decide +kernel) rfl hc_74 rfl hl.1 rfl (by simp [Value.category]) dX5_add_77 (by rw [hR]; exact ⟨rfl, rfl, by decide, by decide, by decide, by decide⟩) (fun r_79 ah_80 H_81 L_82 st_83 hp hw hst => ?_)
      obtain ⟨rfl, eah_80⟩ := hp
      have hc_84 := (show ah_80 rg = _ from (by rw [eah_80]; exact hup_n (h_ne hc_73 hc_74 (by simp)))).trans hc_73
      have hc_85 : ah_80 bx = some (.inr (0, [.int (iMin (bb 0) (T 1)), .int (iMin (bb 1) (T 2)), .int (iMax (bb 2) (T 1)), .int (iMax (bb 3) (T 2))])) := by rw [eah_80]; exact hup_s
      have hc_86 := (show ah_80 sa = _ from (by rw [eah_80]; exact hup_n (h_ne hc_75 hc_74 (by simp)))).trans hc_75
      have hc_87 := (show ah_80 g = _ from (by rw [eah_80]; exact hup_n (h_ne hc_76 hc_74 (by simp)))).trans hc_76
      have hc_88 := (show ah_80 b9 = _ from (by rw [eah_80]; exact hup_n (hb9))).trans hc_77
      have hc_89 := (show ah_80 (G (n - 1)) = _ from (by rw [eah_80]; exact hup_n (h_ne hc_78 hc_74 (by simp)))).trans hc_78
      have hst : st_83 = [] := hst
      subst hst
      refine lv_aload_n hx hb dX5_add_80 rfl (lv_at hl 0 rfl) ?_
      refine h_get (ci := 5) (v := .ref bx) (C := RX5) (T := TX5) (N := 7) hx hb hts kl_X5 hown hK hw hc_84 rfl 2 (by decide) (hts _ kf_X5_19) rfl rfl dX5_add_81 ?_
      refine lv_aload_n hx hb dX5_add_84 rfl (lv_at hl 1 rfl) ?_
      refine h_getN (ci := 7) (v := .int (T 3)) (C := RX7) (T := TX7) (N := 8) hx hb hts kl_X7 hown hK hw hc_87 rfl 4 (by decide) (va_Nw.use rfl (hK.2.1 _ (List.mem_of_getElem? (i := 25) rfl))) rfl rfl dX5_add_85 ?_
      refine lv_aload_n hx hb dX5_add_88 rfl (lv_at hl 1 rfl) ?_
      refine h_getN (ci := 7) (v := .int (T 4)) (C := RX7) (T := TX7) (N := 8) hx hb hts kl_X7 hown hK hw hc_87 rfl 5 (by decide) (va_Nw.use rfl (hK.2.1 _ (List.mem_of_getElem? (i := 27) rfl))) rfl rfl dX5_add_89 ?_
      refine h_callV (n := 2) (ci := 0) (b := bx) (As := [.int (T 3), .int (T 4)]) (rest := []) ⟨hx, hb, hml, hown, hts⟩ hK hw (c_X0_take l D dT ah_80 H_81.size bx (iMin (bb 0) (T 1)) (iMin (bb 1) (T 2)) (iMax (bb 2) (T 1)) (iMax (bb 3) (T 2)) hc_85 (T 3) (T 4)) ko_X0_take km_X5_48 ki_X0_take ks_X0_take kn_X0 (by decide +kernel) rfl hc_85 rfl hl.1 rfl (by simp [Value.category]) dX5_add_92 (by rw [hR]; exact ⟨rfl, rfl, by decide, by decide, by decide, by decide⟩) (fun r_90 ah_91 H_92 L_93 st_94 hp hw hst => ?_)
      obtain ⟨rfl, eah_91⟩ := hp
      have hc_95 := (show ah_91 rg = _ from (by rw [eah_91]; exact hup_n (h_ne hc_84 hc_85 (by simp)))).trans hc_84
      have hc_96 : ah_91 bx = some (.inr (0, [.int (iMin (iMin (bb 0) (T 1)) (T 3)), .int (iMin (iMin (bb 1) (T 2)) (T 4)), .int (iMax (iMax (bb 2) (T 1)) (T 3)), .int (iMax (iMax (bb 3) (T 2)) (T 4))])) := by rw [eah_91]; exact hup_s
      have hc_97 := (show ah_91 sa = _ from (by rw [eah_91]; exact hup_n (h_ne hc_86 hc_85 (by simp)))).trans hc_86
      have hc_98 := (show ah_91 g = _ from (by rw [eah_91]; exact hup_n (h_ne hc_87 hc_85 (by simp)))).trans hc_87
      have hc_99 := (show ah_91 b9 = _ from (by rw [eah_91]; exact hup_n (hb9))).trans hc_88
      have hc_100 := (show ah_91 (G (n - 1)) = _ from (by rw [eah_91]; exact hup_n (h_ne hc_89 hc_85 (by simp)))).trans hc_89
      have hst : st_94 = [] := hst
      subst hst
      rw [hQ]
      exact h_vret hx hb hr hlk hsz hw (by simp) (by simp) dX5_add_95 ⟨rfl, hc_95, hc_96, hc_97, (by rw [if_neg (show ¬ n = 0 by omega)]; exact hc_98), fun _ => hc_100, fun a h1 h2 h3 h4 h5 => by have h6 := h5 (by omega); subst_vars; simp [hup, h1, h2, h3, h4, h6]⟩
  · skip
    have c_1 : ¬ (n < cap) := (not_congr (nI_ltx (by rfl) (by rfl) (by omega) (by omega))).mp c_1
    exfalso
    omega

/-! ShapeJudge$Shapes: the rest of the writes -/
theorem shA_rc {dT : Nat → ClassId} {ah ah2 : hA} {sh rc : Nat} {RO RA cap v : Nat → Nat} {f : Nat → Nat → Int32} (hs : shA dT ah sh RO RA cap v f rc) (n : Nat) (e : ah2 = hup ah sh (.inr (8, [.ref (RO 0), .ref (RO 1), .ref (RO 2), .ref (RO 3), .ref (RO 4), .ref (RO 5), .ref (RO 6), .int (nI n)]))) :
    shA dT ah2 sh RO RA cap v f n ∧ shR ah ah2 sh RO RA RA := by
  obtain ⟨h1, h2, h3, h4⟩ := hs
  have look : ∀ b e9, ah b = some e9 → b ≠ sh → ah2 b = some e9 := fun b e9 hb q2 => by rw [e, hup_n q2]; exact hb
  refine ⟨⟨by rw [e, hup_s], fun i hi => ?_, h3, h4⟩, fun b e9 hb hn _ => look b e9 hb hn, fun i _ => Or.inl rfl, fun b hb => ?_⟩
  · obtain ⟨q1, q2, q3⟩ := h2 i hi
    exact ⟨look _ _ q1 (h_ne q1 h1 (by simp)), look _ _ q2 (h_ne q2 h1 (by simp)), q3⟩
  · cases hb' : ah b with
    | none => rfl
    | some e9 =>
      exfalso
      rw [e] at hb
      by_cases q2 : b = sh
      · rw [q2, hup_s] at hb; cases hb
      · rw [hup_n q2, hb'] at hb; cases hb
/-- the shape that a new one belongs to -/
def shOuter (f : Nat → Nat → Int32) (no : Nat) : Int32 := if no ≤ 0 then -1 else rwGet (f 6) no (nI no - 1)
set_option maxHeartbeats 4000000 in
set_option maxRecDepth 100000 in
theorem c_X8_beginRing (l : Launch) (D : va_G) (dT : Nat → ClassId) (ah : hA) (sz : Nat) (sh : Nat) (RO RA cap : Nat → Nat) (ns nc np no rc : Nat) (f : Nat → Nat → Int32) (hs : shA dT ah sh RO RA cap (v7 ns ns ns nc np np no) f rc) (hnc : nc ≤ 20000) : hMet l yX8_beginRing cX8_beginRing 1 none ({ frames := 4, cells := 1, slots := (rwG nc (cap 3)), locals := 103 }) D dT [.ref sh] ah sz (fun r ah2 => r = none ∧ ∃ (RA2 cap2 : Nat → Nat) (f2 : Nat → Nat → Int32), shA dT ah2 sh RO RA2 cap2 (v7 ns ns ns (nc + 1) np np no) f2 (rc + 1) ∧ shR ah ah2 sh RO RA RA2 ∧ shD (v7 ns ns ns nc np np no) f f2 ∧ f2 3 nc = nI np) 1 (rwG nc (cap 3)) := by
  refine h_met (by decide) (Nat.le_of_ble_eq_true rfl) ?_
  intro p e s m below meth c ls R Q args hav hR hQ hB hl hsz hw
  obtain ⟨hx, hb, hml, hr, hts, hown, hlk, hin, hK⟩ := hB
  have hown : s.vm.findClass RX8 = some m.cls := hown
  have hl : lv_has ls 1 [(0, .ref sh)] := hl
  have hb0 : ns ≤ cap 0 ∧ 32 ≤ cap 0 ∧ cap 0 ≤ 40000 := (hs.2.1 0 (by omega)).2.2
  have hb1 : ns ≤ cap 1 ∧ 32 ≤ cap 1 ∧ cap 1 ≤ 40000 := (hs.2.1 1 (by omega)).2.2
  have hb2 : ns ≤ cap 2 ∧ 32 ≤ cap 2 ∧ cap 2 ≤ 40000 := (hs.2.1 2 (by omega)).2.2
  have hb3 : nc ≤ cap 3 ∧ 32 ≤ cap 3 ∧ cap 3 ≤ 40000 := (hs.2.1 3 (by omega)).2.2
  have hb4 : np ≤ cap 4 ∧ 32 ≤ cap 4 ∧ cap 4 ≤ 40000 := (hs.2.1 4 (by omega)).2.2
  have hb5 : np ≤ cap 5 ∧ 32 ≤ cap 5 ∧ cap 5 ≤ 40000 := (hs.2.1 5 (by omega)).2.2
  have hb6 : no ≤ cap 6 ∧ 32 ≤ cap 6 ∧ cap 6 ≤ 40000 := (hs.2.1 6 (by omega)).2.2
  refine lv_aload_n hx hb dX8_beginRing_0 rfl (lv_at hl 0 rfl) ?_
  refine lv_dup hx hb dX8_beginRing_1 rfl ?_
  refine h_get (ci := 8) (v := .int (nI rc)) (C := RX8) (T := TX8) (N := 8) hx hb hts kl_X8 hown hK hw hs.1 rfl 7 (by decide) (hts _ kf_X8_39) rfl rfl dX8_beginRing_2 ?_
  refine lv_iconst (v := 1) hx hb dX8_beginRing_5 (by decide) ?_
  refine lv_iadd hx hb dX8_beginRing_6 ?_
  refine lv_topi (fun t_1 et_1 => ?_)
  obtain rfl : t_1 = nI (rc + 1) := et_1.trans (nI_c _ 1)
  refine h_put (ci := 8) (v := .int (nI (rc + 1))) (C := RX8) (T := TX8) (N := 8) hx hb hts kl_X8 tyX8 tyX8_ok nmX8 hown hK hw hs.1 rfl 7 (by decide) (hts _ kf_X8_39) rfl rfl (tyX8_ok 7 (by decide)) rfl rfl (Nat.le_of_ble_eq_true rfl) dX8_beginRing_7 (fun H_2 L_3 hw => ?_)
  obtain ⟨ah_4, eah_4⟩ : ∃ z9 : hA, z9 = hup ah sh (.inr (8, [.ref (RO 0), .ref (RO 1), .ref (RO 2), .ref (RO 3), .ref (RO 4), .ref (RO 5), .ref (RO 6), .int (nI (rc + 1))])) := ⟨_, rfl⟩
  have hw : hW D ah s.heap ah_4 H_2 L_3 := by rw [eah_4]; exact hw
  have hc_5 : ah_4 sh = some (.inr (8, [.ref (RO 0), .ref (RO 1), .ref (RO 2), .ref (RO 3), .ref (RO 4), .ref (RO 5), .ref (RO 6), .int (nI (rc + 1))])) := by rw [eah_4]; exact hup_s
  have hc_6 := (show ah_4 (RO 0) = _ from (by rw [eah_4]; exact hup_n (h_ne (hs.2.1 0 (by omega)).1 hs.1 (by simp)))).trans (hs.2.1 0 (by omega)).1
  have hc_7 := (show ah_4 (RA 0) = _ from (by rw [eah_4]; exact hup_n (h_ne (hs.2.1 0 (by omega)).2.1 hs.1 (by simp)))).trans (hs.2.1 0 (by omega)).2.1
  have hc_8 := (show ah_4 (RO 1) = _ from (by rw [eah_4]; exact hup_n (h_ne (hs.2.1 1 (by omega)).1 hs.1 (by simp)))).trans (hs.2.1 1 (by omega)).1
  have hc_9 := (show ah_4 (RA 1) = _ from (by rw [eah_4]; exact hup_n (h_ne (hs.2.1 1 (by omega)).2.1 hs.1 (by simp)))).trans (hs.2.1 1 (by omega)).2.1
  have hc_10 := (show ah_4 (RO 2) = _ from (by rw [eah_4]; exact hup_n (h_ne (hs.2.1 2 (by omega)).1 hs.1 (by simp)))).trans (hs.2.1 2 (by omega)).1
  have hc_11 := (show ah_4 (RA 2) = _ from (by rw [eah_4]; exact hup_n (h_ne (hs.2.1 2 (by omega)).2.1 hs.1 (by simp)))).trans (hs.2.1 2 (by omega)).2.1
  have hc_12 := (show ah_4 (RO 3) = _ from (by rw [eah_4]; exact hup_n (h_ne (hs.2.1 3 (by omega)).1 hs.1 (by simp)))).trans (hs.2.1 3 (by omega)).1
  have hc_13 := (show ah_4 (RA 3) = _ from (by rw [eah_4]; exact hup_n (h_ne (hs.2.1 3 (by omega)).2.1 hs.1 (by simp)))).trans (hs.2.1 3 (by omega)).2.1
  have hc_14 := (show ah_4 (RO 4) = _ from (by rw [eah_4]; exact hup_n (h_ne (hs.2.1 4 (by omega)).1 hs.1 (by simp)))).trans (hs.2.1 4 (by omega)).1
  have hc_15 := (show ah_4 (RA 4) = _ from (by rw [eah_4]; exact hup_n (h_ne (hs.2.1 4 (by omega)).2.1 hs.1 (by simp)))).trans (hs.2.1 4 (by omega)).2.1
  have hc_16 := (show ah_4 (RO 5) = _ from (by rw [eah_4]; exact hup_n (h_ne (hs.2.1 5 (by omega)).1 hs.1 (by simp)))).trans (hs.2.1 5 (by omega)).1
  have hc_17 := (show ah_4 (RA 5) = _ from (by rw [eah_4]; exact hup_n (h_ne (hs.2.1 5 (by omega)).2.1 hs.1 (by simp)))).trans (hs.2.1 5 (by omega)).2.1
  have hc_18 := (show ah_4 (RO 6) = _ from (by rw [eah_4]; exact hup_n (h_ne (hs.2.1 6 (by omega)).1 hs.1 (by simp)))).trans (hs.2.1 6 (by omega)).1
  have hc_19 := (show ah_4 (RA 6) = _ from (by rw [eah_4]; exact hup_n (h_ne (hs.2.1 6 (by omega)).2.1 hs.1 (by simp)))).trans (hs.2.1 6 (by omega)).2.1
  obtain ⟨hs_20, hr_20⟩ := shA_rc hs (rc + 1) eah_4
  have hs_20 : shA dT ah_4 sh RO RA cap (v7 ns ns ns nc np np no) f (rc + 1) := hs_20
  refine lv_aload_n hx hb dX8_beginRing_10 rfl (lv_at hl 0 rfl) ?_
  refine h_get (ci := 8) (v := .ref (RO 3)) (C := RX8) (T := TX8) (N := 8) hx hb hts kl_X8 hown hK hw hs_20.1 rfl 3 (by decide) (hts _ kf_X8_24) rfl rfl dX8_beginRing_11 ?_
  refine lv_aload_n hx hb dX8_beginRing_14 rfl (lv_at hl 0 rfl) ?_
  refine h_get (ci := 8) (v := .ref (RO 4)) (C := RX8) (T := TX8) (N := 8) hx hb hts kl_X8 hown hK hw hs_20.1 rfl 4 (by decide) (hts _ kf_X8_27) rfl rfl dX8_beginRing_15 ?_
  refine h_callV (n := 0) (ci := 6) (b := (RO 4)) (As := []) (rest := [.ref (RO 3)]) ⟨hx, hb, hml, hown, hts⟩ hK hw (c_X6_size l D dT ah_4 H_2.size (RO 4) (RA 4) (cap 4) np (f 4) (by omega) (by omega) (hs_20.2.1 4 (by omega)).1 (hs_20.2.1 4 (by omega)).2.1) ko_X6_size km_X8_43 ki_X6_size ks_X6_size kn_X6 (by decide +kernel) rfl (hs_20.2.1 4 (by omega)).1 rfl hl.1 rfl (by simp [Value.category]) dX8_beginRing_18 (by rw [hR]; exact ⟨rfl, rfl, Nat.le_of_ble_eq_true rfl, Nat.le_of_ble_eq_true rfl, by simp, by simp⟩) (fun r_21 ah_22 H_23 L_24 st_25 hp hw hst => ?_)
  obtain ⟨rfl, rfl⟩ := hp
  have hst : st_25 = [.int (nI np), .ref (RO 3)] := hst
  subst hst
  refine h_callV (n := 1) (ci := 6) (b := (RO 3)) (As := [.int (nI np)]) (rest := []) ⟨hx, hb, hml, hown, hts⟩ hK hw (c_X6_add l D dT ah_4 H_23.size (RO 3) (RA 3) (cap 3) nc (f 3) (by omega) (by omega) (by omega) (hs_20.2.1 3 (by omega)).1 (hs_20.2.1 3 (by omega)).2.1 (nI np)) ko_X6_add km_X8_57 ki_X6_add ks_X6_add kn_X6 (by decide +kernel) rfl (hs_20.2.1 3 (by omega)).1 rfl hl.1 rfl (by simp [Value.category]) dX8_beginRing_21 (by rw [hR]; exact ⟨rfl, rfl, Nat.le_of_ble_eq_true rfl, Nat.le_of_ble_eq_true rfl, by simp, by simp; try omega⟩) (fun r_27 ah_28 H_29 L_30 st_31 hp hw hst => ?_)
  obtain ⟨rfl, a2_26, c2_26, g2_26, ha_26, hl_26, ho_26, hn_26, eah_28⟩ := hp
  obtain ⟨RA_26, f_26, hs_26, hr_26, hd_26, hx_26⟩ := shA_add hs_20 3 (by omega) ha_26 hl_26 ho_26 hn_26 (by show nc ≤ 20000; omega) eah_28
  have hs_26 : shA dT ah_28 sh RO RA_26 (va_up cap 3 (cap 3 + rwG nc (cap 3) / 2)) (v7 ns ns ns (nc + 1) np np no) f_26 (rc + 1) := shA_v hs_26 (by intro k9 hk9; rcases (show k9 = 0 ∨ k9 = 1 ∨ k9 = 2 ∨ k9 = 3 ∨ k9 = 4 ∨ k9 = 5 ∨ k9 = 6 by omega) with rfl | rfl | rfl | rfl | rfl | rfl | rfl <;> rfl)
  have hb_260 : ns ≤ cap 0 ∧ 32 ≤ cap 0 ∧ cap 0 ≤ 40000 := (hs_26.2.1 0 (by omega)).2.2
  have hb_261 : ns ≤ cap 1 ∧ 32 ≤ cap 1 ∧ cap 1 ≤ 40000 := (hs_26.2.1 1 (by omega)).2.2
  have hb_262 : ns ≤ cap 2 ∧ 32 ≤ cap 2 ∧ cap 2 ≤ 40000 := (hs_26.2.1 2 (by omega)).2.2
  have hb_263 : nc + 1 ≤ cap 3 + rwG nc (cap 3) / 2 ∧ 32 ≤ cap 3 + rwG nc (cap 3) / 2 ∧ cap 3 + rwG nc (cap 3) / 2 ≤ 40000 := (hs_26.2.1 3 (by omega)).2.2
  have hb_264 : np ≤ cap 4 ∧ 32 ≤ cap 4 ∧ cap 4 ≤ 40000 := (hs_26.2.1 4 (by omega)).2.2
  have hb_265 : np ≤ cap 5 ∧ 32 ≤ cap 5 ∧ cap 5 ≤ 40000 := (hs_26.2.1 5 (by omega)).2.2
  have hb_266 : no ≤ cap 6 ∧ 32 ≤ cap 6 ∧ cap 6 ≤ 40000 := (hs_26.2.1 6 (by omega)).2.2
  have hst : st_31 = [] := hst
  subst hst
  rw [hQ]
  exact h_vret hx hb hr hlk hsz hw (by simp) (by simp) dX8_beginRing_24 ⟨rfl, _, _, _, hs_26, (shR_t hr_20 hr_26), hd_26, hx_26⟩

set_option maxHeartbeats 4000000 in
set_option maxRecDepth 100000 in
theorem c_X8_forget (l : Launch) (D : va_G) (dT : Nat → ClassId) (ah : hA) (sz : Nat) (sh : Nat) (RO RA cap : Nat → Nat) (ns nc np no rc : Nat) (f : Nat → Nat → Int32) (hs : shA dT ah sh RO RA cap (v7 ns ns ns nc np np no) f rc) : hMet l yX8_forget cX8_forget 1 none ({ frames := 1, cells := 0, slots := 0, locals := 20 }) D dT [.ref sh] ah sz (fun r ah2 => r = none ∧ shA dT ah2 sh RO RA cap (v7 0 0 0 0 0 0 0) f 0 ∧ shR ah ah2 sh RO RA RA) 0 0 := by
  refine h_met (by decide) (Nat.le_of_ble_eq_true rfl) ?_
  intro p e s m below meth c ls R Q args hav hR hQ hB hl hsz hw
  obtain ⟨hx, hb, hml, hr, hts, hown, hlk, hin, hK⟩ := hB
  have hown : s.vm.findClass RX8 = some m.cls := hown
  have hl : lv_has ls 1 [(0, .ref sh)] := hl
  have hb0 : ns ≤ cap 0 ∧ 32 ≤ cap 0 ∧ cap 0 ≤ 40000 := (hs.2.1 0 (by omega)).2.2
  have hb1 : ns ≤ cap 1 ∧ 32 ≤ cap 1 ∧ cap 1 ≤ 40000 := (hs.2.1 1 (by omega)).2.2
  have hb2 : ns ≤ cap 2 ∧ 32 ≤ cap 2 ∧ cap 2 ≤ 40000 := (hs.2.1 2 (by omega)).2.2
  have hb3 : nc ≤ cap 3 ∧ 32 ≤ cap 3 ∧ cap 3 ≤ 40000 := (hs.2.1 3 (by omega)).2.2
  have hb4 : np ≤ cap 4 ∧ 32 ≤ cap 4 ∧ cap 4 ≤ 40000 := (hs.2.1 4 (by omega)).2.2
  have hb5 : np ≤ cap 5 ∧ 32 ≤ cap 5 ∧ cap 5 ≤ 40000 := (hs.2.1 5 (by omega)).2.2
  have hb6 : no ≤ cap 6 ∧ 32 ≤ cap 6 ∧ cap 6 ≤ 40000 := (hs.2.1 6 (by omega)).2.2
  refine lv_aload_n hx hb dX8_forget_0 rfl (lv_at hl 0 rfl) ?_
  refine h_get (ci := 8) (v := .ref (RO 0)) (C := RX8) (T := TX8) (N := 8) hx hb hts kl_X8 hown hK hw hs.1 rfl 0 (by decide) (hts _ kf_X8_12) rfl rfl dX8_forget_1 ?_
  refine h_callV (n := 0) (ci := 6) (b := (RO 0)) (As := []) (rest := []) ⟨hx, hb, hml, hown, hts⟩ hK hw (c_X6_empty l D dT ah s.heap.size (RO 0) (RA 0) (cap 0) ns (f 0) (by omega) (by omega) (hs.2.1 0 (by omega)).1 (hs.2.1 0 (by omega)).2.1) ko_X6_empty km_X8_36 ki_X6_empty ks_X6_empty kn_X6 (by decide +kernel) rfl (hs.2.1 0 (by omega)).1 rfl hl.1 rfl (by simp [Value.category]) dX8_forget_4 (by rw [hR]; exact ⟨rfl, rfl, Nat.le_of_ble_eq_true rfl, Nat.le_of_ble_eq_true rfl, by simp, by simp⟩) (fun r_2 ah_3 H_4 L_5 st_6 hp hw hst => ?_)
  obtain ⟨rfl, eah_3⟩ := hp
  obtain ⟨hs_1, hr_1⟩ := shA_cut hs 0 (by omega) (m := 0) (by show 0 ≤ ns; omega) eah_3
  have hs_1 : shA dT ah_3 sh RO RA cap (v7 0 ns ns nc np np no) f rc := shA_v hs_1 (by intro k9 hk9; rcases (show k9 = 0 ∨ k9 = 1 ∨ k9 = 2 ∨ k9 = 3 ∨ k9 = 4 ∨ k9 = 5 ∨ k9 = 6 by omega) with rfl | rfl | rfl | rfl | rfl | rfl | rfl <;> rfl)
  have hst : st_6 = [] := hst
  subst hst
  refine lv_aload_n hx hb dX8_forget_7 rfl (lv_at hl 0 rfl) ?_
  refine h_get (ci := 8) (v := .ref (RO 1)) (C := RX8) (T := TX8) (N := 8) hx hb hts kl_X8 hown hK hw hs_1.1 rfl 1 (by decide) (hts _ kf_X8_18) rfl rfl dX8_forget_8 ?_
  refine h_callV (n := 0) (ci := 6) (b := (RO 1)) (As := []) (rest := []) ⟨hx, hb, hml, hown, hts⟩ hK hw (c_X6_empty l D dT ah_3 H_4.size (RO 1) (RA 1) (cap 1) ns (f 1) (by omega) (by omega) (hs_1.2.1 1 (by omega)).1 (hs_1.2.1 1 (by omega)).2.1) ko_X6_empty km_X8_36 ki_X6_empty ks_X6_empty kn_X6 (by decide +kernel) rfl (hs_1.2.1 1 (by omega)).1 rfl hl.1 rfl (by simp [Value.category]) dX8_forget_11 (by rw [hR]; exact ⟨rfl, rfl, Nat.le_of_ble_eq_true rfl, Nat.le_of_ble_eq_true rfl, by simp, by simp⟩) (fun r_8 ah_9 H_10 L_11 st_12 hp hw hst => ?_)
  obtain ⟨rfl, eah_9⟩ := hp
  obtain ⟨hs_7, hr_7⟩ := shA_cut hs_1 1 (by omega) (m := 0) (by show 0 ≤ ns; omega) eah_9
  have hs_7 : shA dT ah_9 sh RO RA cap (v7 0 0 ns nc np np no) f rc := shA_v hs_7 (by intro k9 hk9; rcases (show k9 = 0 ∨ k9 = 1 ∨ k9 = 2 ∨ k9 = 3 ∨ k9 = 4 ∨ k9 = 5 ∨ k9 = 6 by omega) with rfl | rfl | rfl | rfl | rfl | rfl | rfl <;> rfl)
  have hst : st_12 = [] := hst
  subst hst
  refine lv_aload_n hx hb dX8_forget_14 rfl (lv_at hl 0 rfl) ?_
  refine h_get (ci := 8) (v := .ref (RO 2)) (C := RX8) (T := TX8) (N := 8) hx hb hts kl_X8 hown hK hw hs_7.1 rfl 2 (by decide) (hts _ kf_X8_21) rfl rfl dX8_forget_15 ?_
  refine h_callV (n := 0) (ci := 6) (b := (RO 2)) (As := []) (rest := []) ⟨hx, hb, hml, hown, hts⟩ hK hw (c_X6_empty l D dT ah_9 H_10.size (RO 2) (RA 2) (cap 2) ns (f 2) (by omega) (by omega) (hs_7.2.1 2 (by omega)).1 (hs_7.2.1 2 (by omega)).2.1) ko_X6_empty km_X8_36 ki_X6_empty ks_X6_empty kn_X6 (by decide +kernel) rfl (hs_7.2.1 2 (by omega)).1 rfl hl.1 rfl (by simp [Value.category]) dX8_forget_18 (by rw [hR]; exact ⟨rfl, rfl, Nat.le_of_ble_eq_true rfl, Nat.le_of_ble_eq_true rfl, by simp, by simp⟩) (fun r_14 ah_15 H_16 L_17 st_18 hp hw hst => ?_)
  obtain ⟨rfl, eah_15⟩ := hp
  obtain ⟨hs_13, hr_13⟩ := shA_cut hs_7 2 (by omega) (m := 0) (by show 0 ≤ ns; omega) eah_15
  have hs_13 : shA dT ah_15 sh RO RA cap (v7 0 0 0 nc np np no) f rc := shA_v hs_13 (by intro k9 hk9; rcases (show k9 = 0 ∨ k9 = 1 ∨ k9 = 2 ∨ k9 = 3 ∨ k9 = 4 ∨ k9 = 5 ∨ k9 = 6 by omega) with rfl | rfl | rfl | rfl | rfl | rfl | rfl <;> rfl)
  have hst : st_18 = [] := hst
  subst hst
  refine lv_aload_n hx hb dX8_forget_21 rfl (lv_at hl 0 rfl) ?_
  refine h_get (ci := 8) (v := .ref (RO 3)) (C := RX8) (T := TX8) (N := 8) hx hb hts kl_X8 hown hK hw hs_13.1 rfl 3 (by decide) (hts _ kf_X8_24) rfl rfl dX8_forget_22 ?_
  refine h_callV (n := 0) (ci := 6) (b := (RO 3)) (As := []) (rest := []) ⟨hx, hb, hml, hown, hts⟩ hK hw (c_X6_empty l D dT ah_15 H_16.size (RO 3) (RA 3) (cap 3) nc (f 3) (by omega) (by omega) (hs_13.2.1 3 (by omega)).1 (hs_13.2.1 3 (by omega)).2.1) ko_X6_empty km_X8_36 ki_X6_empty ks_X6_empty kn_X6 (by decide +kernel) rfl (hs_13.2.1 3 (by omega)).1 rfl hl.1 rfl (by simp [Value.category]) dX8_forget_25 (by rw [hR]; exact ⟨rfl, rfl, Nat.le_of_ble_eq_true rfl, Nat.le_of_ble_eq_true rfl, by simp, by simp⟩) (fun r_20 ah_21 H_22 L_23 st_24 hp hw hst => ?_)
  obtain ⟨rfl, eah_21⟩ := hp
  obtain ⟨hs_19, hr_19⟩ := shA_cut hs_13 3 (by omega) (m := 0) (by show 0 ≤ nc; omega) eah_21
  have hs_19 : shA dT ah_21 sh RO RA cap (v7 0 0 0 0 np np no) f rc := shA_v hs_19 (by intro k9 hk9; rcases (show k9 = 0 ∨ k9 = 1 ∨ k9 = 2 ∨ k9 = 3 ∨ k9 = 4 ∨ k9 = 5 ∨ k9 = 6 by omega) with rfl | rfl | rfl | rfl | rfl | rfl | rfl <;> rfl)
  have hst : st_24 = [] := hst
  subst hst
  refine lv_aload_n hx hb dX8_forget_28 rfl (lv_at hl 0 rfl) ?_
  refine h_get (ci := 8) (v := .ref (RO 4)) (C := RX8) (T := TX8) (N := 8) hx hb hts kl_X8 hown hK hw hs_19.1 rfl 4 (by decide) (hts _ kf_X8_27) rfl rfl dX8_forget_29 ?_
  refine h_callV (n := 0) (ci := 6) (b := (RO 4)) (As := []) (rest := []) ⟨hx, hb, hml, hown, hts⟩ hK hw (c_X6_empty l D dT ah_21 H_22.size (RO 4) (RA 4) (cap 4) np (f 4) (by omega) (by omega) (hs_19.2.1 4 (by omega)).1 (hs_19.2.1 4 (by omega)).2.1) ko_X6_empty km_X8_36 ki_X6_empty ks_X6_empty kn_X6 (by decide +kernel) rfl (hs_19.2.1 4 (by omega)).1 rfl hl.1 rfl (by simp [Value.category]) dX8_forget_32 (by rw [hR]; exact ⟨rfl, rfl, Nat.le_of_ble_eq_true rfl, Nat.le_of_ble_eq_true rfl, by simp, by simp⟩) (fun r_26 ah_27 H_28 L_29 st_30 hp hw hst => ?_)
  obtain ⟨rfl, eah_27⟩ := hp
  obtain ⟨hs_25, hr_25⟩ := shA_cut hs_19 4 (by omega) (m := 0) (by show 0 ≤ np; omega) eah_27
  have hs_25 : shA dT ah_27 sh RO RA cap (v7 0 0 0 0 0 np no) f rc := shA_v hs_25 (by intro k9 hk9; rcases (show k9 = 0 ∨ k9 = 1 ∨ k9 = 2 ∨ k9 = 3 ∨ k9 = 4 ∨ k9 = 5 ∨ k9 = 6 by omega) with rfl | rfl | rfl | rfl | rfl | rfl | rfl <;> rfl)
  have hst : st_30 = [] := hst
  subst hst
  refine lv_aload_n hx hb dX8_forget_35 rfl (lv_at hl 0 rfl) ?_
  refine h_get (ci := 8) (v := .ref (RO 5)) (C := RX8) (T := TX8) (N := 8) hx hb hts kl_X8 hown hK hw hs_25.1 rfl 5 (by decide) (hts _ kf_X8_30) rfl rfl dX8_forget_36 ?_
  refine h_callV (n := 0) (ci := 6) (b := (RO 5)) (As := []) (rest := []) ⟨hx, hb, hml, hown, hts⟩ hK hw (c_X6_empty l D dT ah_27 H_28.size (RO 5) (RA 5) (cap 5) np (f 5) (by omega) (by omega) (hs_25.2.1 5 (by omega)).1 (hs_25.2.1 5 (by omega)).2.1) ko_X6_empty km_X8_36 ki_X6_empty ks_X6_empty kn_X6 (by decide +kernel) rfl (hs_25.2.1 5 (by omega)).1 rfl hl.1 rfl (by simp [Value.category]) dX8_forget_39 (by rw [hR]; exact ⟨rfl, rfl, Nat.le_of_ble_eq_true rfl, Nat.le_of_ble_eq_true rfl, by simp, by simp⟩) (fun r_32 ah_33 H_34 L_35 st_36 hp hw hst => ?_)
  obtain ⟨rfl, eah_33⟩ := hp
  obtain ⟨hs_31, hr_31⟩ := shA_cut hs_25 5 (by omega) (m := 0) (by show 0 ≤ np; omega) eah_33
  have hs_31 : shA dT ah_33 sh RO RA cap (v7 0 0 0 0 0 0 no) f rc := shA_v hs_31 (by intro k9 hk9; rcases (show k9 = 0 ∨ k9 = 1 ∨ k9 = 2 ∨ k9 = 3 ∨ k9 = 4 ∨ k9 = 5 ∨ k9 = 6 by omega) with rfl | rfl | rfl | rfl | rfl | rfl | rfl <;> rfl)
  have hst : st_36 = [] := hst
  subst hst
  refine lv_aload_n hx hb dX8_forget_42 rfl (lv_at hl 0 rfl) ?_
  refine h_get (ci := 8) (v := .ref (RO 6)) (C := RX8) (T := TX8) (N := 8) hx hb hts kl_X8 hown hK hw hs_31.1 rfl 6 (by decide) (hts _ kf_X8_33) rfl rfl dX8_forget_43 ?_
  refine h_callV (n := 0) (ci := 6) (b := (RO 6)) (As := []) (rest := []) ⟨hx, hb, hml, hown, hts⟩ hK hw (c_X6_empty l D dT ah_33 H_34.size (RO 6) (RA 6) (cap 6) no (f 6) (by omega) (by omega) (hs_31.2.1 6 (by omega)).1 (hs_31.2.1 6 (by omega)).2.1) ko_X6_empty km_X8_36 ki_X6_empty ks_X6_empty kn_X6 (by decide +kernel) rfl (hs_31.2.1 6 (by omega)).1 rfl hl.1 rfl (by simp [Value.category]) dX8_forget_46 (by rw [hR]; exact ⟨rfl, rfl, Nat.le_of_ble_eq_true rfl, Nat.le_of_ble_eq_true rfl, by simp, by simp⟩) (fun r_38 ah_39 H_40 L_41 st_42 hp hw hst => ?_)
  obtain ⟨rfl, eah_39⟩ := hp
  obtain ⟨hs_37, hr_37⟩ := shA_cut hs_31 6 (by omega) (m := 0) (by show 0 ≤ no; omega) eah_39
  have hs_37 : shA dT ah_39 sh RO RA cap (v7 0 0 0 0 0 0 0) f rc := shA_v hs_37 (by intro k9 hk9; rcases (show k9 = 0 ∨ k9 = 1 ∨ k9 = 2 ∨ k9 = 3 ∨ k9 = 4 ∨ k9 = 5 ∨ k9 = 6 by omega) with rfl | rfl | rfl | rfl | rfl | rfl | rfl <;> rfl)
  have hst : st_42 = [] := hst
  subst hst
  refine lv_aload_n hx hb dX8_forget_49 rfl (lv_at hl 0 rfl) ?_
  refine lv_iconst (v := 0) hx hb dX8_forget_50 (by decide) ?_
  refine h_put (ci := 8) (v := .int 0) (C := RX8) (T := TX8) (N := 8) hx hb hts kl_X8 tyX8 tyX8_ok nmX8 hown hK hw hs_37.1 rfl 7 (by decide) (hts _ kf_X8_39) rfl rfl (tyX8_ok 7 (by decide)) rfl rfl (Nat.le_of_ble_eq_true rfl) dX8_forget_51 (fun H_43 L_44 hw => ?_)
  obtain ⟨ah_45, eah_45⟩ : ∃ z9 : hA, z9 = hup ah_39 sh (.inr (8, [.ref (RO 0), .ref (RO 1), .ref (RO 2), .ref (RO 3), .ref (RO 4), .ref (RO 5), .ref (RO 6), .int 0])) := ⟨_, rfl⟩
  have hw : hW D ah s.heap ah_45 H_43 L_44 := by rw [eah_45]; exact hw
  have hc_46 : ah_45 sh = some (.inr (8, [.ref (RO 0), .ref (RO 1), .ref (RO 2), .ref (RO 3), .ref (RO 4), .ref (RO 5), .ref (RO 6), .int 0])) := by rw [eah_45]; exact hup_s
  have hc_47 := (show ah_45 (RO 0) = _ from (by rw [eah_45]; exact hup_n (h_ne (hs_37.2.1 0 (by omega)).1 hs_37.1 (by simp)))).trans (hs_37.2.1 0 (by omega)).1
  have hc_48 := (show ah_45 (RA 0) = _ from (by rw [eah_45]; exact hup_n (h_ne (hs_37.2.1 0 (by omega)).2.1 hs_37.1 (by simp)))).trans (hs_37.2.1 0 (by omega)).2.1
  have hc_49 := (show ah_45 (RO 1) = _ from (by rw [eah_45]; exact hup_n (h_ne (hs_37.2.1 1 (by omega)).1 hs_37.1 (by simp)))).trans (hs_37.2.1 1 (by omega)).1
  have hc_50 := (show ah_45 (RA 1) = _ from (by rw [eah_45]; exact hup_n (h_ne (hs_37.2.1 1 (by omega)).2.1 hs_37.1 (by simp)))).trans (hs_37.2.1 1 (by omega)).2.1
  have hc_51 := (show ah_45 (RO 2) = _ from (by rw [eah_45]; exact hup_n (h_ne (hs_37.2.1 2 (by omega)).1 hs_37.1 (by simp)))).trans (hs_37.2.1 2 (by omega)).1
  have hc_52 := (show ah_45 (RA 2) = _ from (by rw [eah_45]; exact hup_n (h_ne (hs_37.2.1 2 (by omega)).2.1 hs_37.1 (by simp)))).trans (hs_37.2.1 2 (by omega)).2.1
  have hc_53 := (show ah_45 (RO 3) = _ from (by rw [eah_45]; exact hup_n (h_ne (hs_37.2.1 3 (by omega)).1 hs_37.1 (by simp)))).trans (hs_37.2.1 3 (by omega)).1
  have hc_54 := (show ah_45 (RA 3) = _ from (by rw [eah_45]; exact hup_n (h_ne (hs_37.2.1 3 (by omega)).2.1 hs_37.1 (by simp)))).trans (hs_37.2.1 3 (by omega)).2.1
  have hc_55 := (show ah_45 (RO 4) = _ from (by rw [eah_45]; exact hup_n (h_ne (hs_37.2.1 4 (by omega)).1 hs_37.1 (by simp)))).trans (hs_37.2.1 4 (by omega)).1
  have hc_56 := (show ah_45 (RA 4) = _ from (by rw [eah_45]; exact hup_n (h_ne (hs_37.2.1 4 (by omega)).2.1 hs_37.1 (by simp)))).trans (hs_37.2.1 4 (by omega)).2.1
  have hc_57 := (show ah_45 (RO 5) = _ from (by rw [eah_45]; exact hup_n (h_ne (hs_37.2.1 5 (by omega)).1 hs_37.1 (by simp)))).trans (hs_37.2.1 5 (by omega)).1
  have hc_58 := (show ah_45 (RA 5) = _ from (by rw [eah_45]; exact hup_n (h_ne (hs_37.2.1 5 (by omega)).2.1 hs_37.1 (by simp)))).trans (hs_37.2.1 5 (by omega)).2.1
  have hc_59 := (show ah_45 (RO 6) = _ from (by rw [eah_45]; exact hup_n (h_ne (hs_37.2.1 6 (by omega)).1 hs_37.1 (by simp)))).trans (hs_37.2.1 6 (by omega)).1
  have hc_60 := (show ah_45 (RA 6) = _ from (by rw [eah_45]; exact hup_n (h_ne (hs_37.2.1 6 (by omega)).2.1 hs_37.1 (by simp)))).trans (hs_37.2.1 6 (by omega)).2.1
  obtain ⟨hs_61, hr_61⟩ := shA_rc hs_37 0 eah_45
  have hs_61 : shA dT ah_45 sh RO RA cap (v7 0 0 0 0 0 0 0) f 0 := hs_61
  rw [hQ]
  exact h_vret hx hb hr hlk hsz hw (by simp) (by simp) dX8_forget_54 ⟨rfl, hs_61, (shR_t (shR_t (shR_t (shR_t (shR_t (shR_t (shR_t hr_1 hr_7) hr_13) hr_19) hr_25) hr_31) hr_37) hr_61)⟩

set_option maxHeartbeats 4000000 in
set_option maxRecDepth 100000 in
theorem c_X8_begin (l : Launch) (D : va_G) (dT : Nat → ClassId) (ah : hA) (sz : Nat) (sh : Nat) (RO RA cap : Nat → Nat) (ns nc np no rc : Nat) (f : Nat → Nat → Int32) (hs : shA dT ah sh RO RA cap (v7 ns ns ns nc np np no) f rc) (hns : ns ≤ 20000) (hnc : nc ≤ 20000) (hno : no ≤ 20000) (x : Int32) : hMet l yX8_begin cX8_begin 2 (some .int) ({ frames := 4, cells := 5, slots := (rwG ns (cap 1) + rwG no (cap 6) + rwG ns (cap 0) + rwG ns (cap 2) + rwG nc (cap 3)), locals := 103 }) D dT [.ref sh, .int x] ah sz (fun r ah2 => r = some (.int (nI (no + 1))) ∧ ∃ (RA2 cap2 : Nat → Nat) (f2 : Nat → Nat → Int32) (nc2 : Nat), shA dT ah2 sh RO RA2 cap2 (v7 (ns + 1) (ns + 1) (ns + 1) nc2 np np (no + 1)) f2 rc ∧ shR ah ah2 sh RO RA RA2 ∧ shD (v7 ns ns ns nc np np no) f f2 ∧ f2 0 ns = x ∧ f2 1 ns = shOuter f no ∧ f2 2 ns = nI nc ∧ f2 6 no = nI ns ∧ ((x = 1 ∨ x = 2) ∧ nc2 = nc + 1 ∧ f2 3 nc = nI np ∨ ¬ (x = 1 ∨ x = 2) ∧ nc2 = nc)) 5 (rwG ns (cap 1) + rwG no (cap 6) + rwG ns (cap 0) + rwG ns (cap 2) + rwG nc (cap 3)) := by
  refine h_met (by decide) (Nat.le_of_ble_eq_true rfl) ?_
  intro p e s m below meth c ls R Q args hav hR hQ hB hl hsz hw
  obtain ⟨hx, hb, hml, hr, hts, hown, hlk, hin, hK⟩ := hB
  have hown : s.vm.findClass RX8 = some m.cls := hown
  have hl : lv_has ls 2 [(0, .ref sh), (1, .int x)] := hl
  have hb0 : ns ≤ cap 0 ∧ 32 ≤ cap 0 ∧ cap 0 ≤ 40000 := (hs.2.1 0 (by omega)).2.2
  have hb1 : ns ≤ cap 1 ∧ 32 ≤ cap 1 ∧ cap 1 ≤ 40000 := (hs.2.1 1 (by omega)).2.2
  have hb2 : ns ≤ cap 2 ∧ 32 ≤ cap 2 ∧ cap 2 ≤ 40000 := (hs.2.1 2 (by omega)).2.2
  have hb3 : nc ≤ cap 3 ∧ 32 ≤ cap 3 ∧ cap 3 ≤ 40000 := (hs.2.1 3 (by omega)).2.2
  have hb4 : np ≤ cap 4 ∧ 32 ≤ cap 4 ∧ cap 4 ≤ 40000 := (hs.2.1 4 (by omega)).2.2
  have hb5 : np ≤ cap 5 ∧ 32 ≤ cap 5 ∧ cap 5 ≤ 40000 := (hs.2.1 5 (by omega)).2.2
  have hb6 : no ≤ cap 6 ∧ 32 ≤ cap 6 ∧ cap 6 ≤ 40000 := (hs.2.1 6 (by omega)).2.2
  refine lv_aload_n hx hb dX8_begin_0 rfl (lv_at hl 0 rfl) ?_
  refine h_get (ci := 8) (v := .ref (RO 1)) (C := RX8) (T := TX8) (N := 8) hx hb hts kl_X8 hown hK hw hs.1 rfl 1 (by decide) (hts _ kf_X8_18) rfl rfl dX8_begin_1 ?_
  refine lv_aload_n hx hb dX8_begin_4 rfl (lv_at hl 0 rfl) ?_
  refine h_get (ci := 8) (v := .ref (RO 6)) (C := RX8) (T := TX8) (N := 8) hx hb hts kl_X8 hown hK hw hs.1 rfl 6 (by decide) (hts _ kf_X8_33) rfl rfl dX8_begin_5 ?_
  refine h_callV (n := 0) (ci := 6) (b := (RO 6)) (As := []) (rest := [.ref (RO 1)]) ⟨hx, hb, hml, hown, hts⟩ hK hw (c_X6_size l D dT ah s.heap.size (RO 6) (RA 6) (cap 6) no (f 6) (by omega) (by omega) (hs.2.1 6 (by omega)).1 (hs.2.1 6 (by omega)).2.1) ko_X6_size km_X8_43 ki_X6_size ks_X6_size kn_X6 (by decide +kernel) rfl (hs.2.1 6 (by omega)).1 rfl hl.1 rfl (by simp [Value.category]) dX8_begin_8 (by rw [hR]; exact ⟨rfl, rfl, Nat.le_of_ble_eq_true rfl, Nat.le_of_ble_eq_true rfl, (by simp; try omega), (by simp; try omega)⟩) (fun r_1 ah_2 H_3 L_4 st_5 hp hw hst => ?_)
  obtain ⟨rfl, rfl⟩ := hp
  have hst : st_5 = [.int (nI no), .ref (RO 1)] := hst
  subst hst
  refine lv_if_le (tgt := 24) hx hb dX8_begin_11 (by decide) (fun c_6 => ?_) (fun c_6 => ?_)
  · skip
    have c_6 : no ≤ 0 := (nI_lex (by rfl) (by decide) (by omega) (by omega)).mp c_6
    refine lv_iconst (v := (-1)) hx hb dX8_begin_24 (by decide) ?_
    refine h_callV (n := 1) (ci := 6) (b := (RO 1)) (As := [.int (-1)]) (rest := []) ⟨hx, hb, hml, hown, hts⟩ hK hw (c_X6_add l D dT ah H_3.size (RO 1) (RA 1) (cap 1) ns (f 1) (by omega) (by omega) (by omega) (hs.2.1 1 (by omega)).1 (hs.2.1 1 (by omega)).2.1 (-1)) ko_X6_add km_X8_57 ki_X6_add ks_X6_add kn_X6 (by decide +kernel) rfl (hs.2.1 1 (by omega)).1 rfl hl.1 rfl (by simp [Value.category]) dX8_begin_25 (by rw [hR]; exact ⟨rfl, rfl, Nat.le_of_ble_eq_true rfl, Nat.le_of_ble_eq_true rfl, by simp, by simp; try omega⟩) (fun r_8 ah_9 H_10 L_11 st_12 hp hw hst => ?_)
    obtain ⟨rfl, a2_7, c2_7, g2_7, ha_7, hl_7, ho_7, hn_7, eah_9⟩ := hp
    obtain ⟨RA_7, f_7, hs_7, hr_7, hd_7, hx_7⟩ := shA_add hs 1 (by omega) ha_7 hl_7 ho_7 hn_7 (by show ns ≤ 20000; omega) eah_9
    have hs_7 : shA dT ah_9 sh RO RA_7 (va_up cap 1 (cap 1 + rwG ns (cap 1) / 2)) (v7 ns (ns + 1) ns nc np np no) f_7 rc := shA_v hs_7 (by intro k9 hk9; rcases (show k9 = 0 ∨ k9 = 1 ∨ k9 = 2 ∨ k9 = 3 ∨ k9 = 4 ∨ k9 = 5 ∨ k9 = 6 by omega) with rfl | rfl | rfl | rfl | rfl | rfl | rfl <;> rfl)
    have hb_70 : ns ≤ cap 0 ∧ 32 ≤ cap 0 ∧ cap 0 ≤ 40000 := (hs_7.2.1 0 (by omega)).2.2
    have hb_71 : ns + 1 ≤ cap 1 + rwG ns (cap 1) / 2 ∧ 32 ≤ cap 1 + rwG ns (cap 1) / 2 ∧ cap 1 + rwG ns (cap 1) / 2 ≤ 40000 := (hs_7.2.1 1 (by omega)).2.2
    have hb_72 : ns ≤ cap 2 ∧ 32 ≤ cap 2 ∧ cap 2 ≤ 40000 := (hs_7.2.1 2 (by omega)).2.2
    have hb_73 : nc ≤ cap 3 ∧ 32 ≤ cap 3 ∧ cap 3 ≤ 40000 := (hs_7.2.1 3 (by omega)).2.2
    have hb_74 : np ≤ cap 4 ∧ 32 ≤ cap 4 ∧ cap 4 ≤ 40000 := (hs_7.2.1 4 (by omega)).2.2
    have hb_75 : np ≤ cap 5 ∧ 32 ≤ cap 5 ∧ cap 5 ≤ 40000 := (hs_7.2.1 5 (by omega)).2.2
    have hb_76 : no ≤ cap 6 ∧ 32 ≤ cap 6 ∧ cap 6 ≤ 40000 := (hs_7.2.1 6 (by omega)).2.2
    have hst : st_12 = [] := hst
    subst hst
    refine lv_aload_n hx hb dX8_begin_28 rfl (lv_at hl 0 rfl) ?_
    refine h_get (ci := 8) (v := .ref (RO 6)) (C := RX8) (T := TX8) (N := 8) hx hb hts kl_X8 hown hK hw hs_7.1 rfl 6 (by decide) (hts _ kf_X8_33) rfl rfl dX8_begin_29 ?_
    refine lv_aload_n hx hb dX8_begin_32 rfl (lv_at hl 0 rfl) ?_
    refine h_get (ci := 8) (v := .ref (RO 0)) (C := RX8) (T := TX8) (N := 8) hx hb hts kl_X8 hown hK hw hs_7.1 rfl 0 (by decide) (hts _ kf_X8_12) rfl rfl dX8_begin_33 ?_
    refine h_callV (n := 0) (ci := 6) (b := (RO 0)) (As := []) (rest := [.ref (RO 6)]) ⟨hx, hb, hml, hown, hts⟩ hK hw (c_X6_size l D dT ah_9 H_10.size (RO 0) (RA_7 0) (cap 0) ns (f_7 0) (by omega) (by omega) (hs_7.2.1 0 (by omega)).1 (hs_7.2.1 0 (by omega)).2.1) ko_X6_size km_X8_43 ki_X6_size ks_X6_size kn_X6 (by decide +kernel) rfl (hs_7.2.1 0 (by omega)).1 rfl hl.1 rfl (by simp [Value.category]) dX8_begin_36 (by rw [hR]; exact ⟨rfl, rfl, Nat.le_of_ble_eq_true rfl, Nat.le_of_ble_eq_true rfl, (by simp; try omega), (by simp; try omega)⟩) (fun r_13 ah_14 H_15 L_16 st_17 hp hw hst => ?_)
    obtain ⟨rfl, rfl⟩ := hp
    have hst : st_17 = [.int (nI ns), .ref (RO 6)] := hst
    subst hst
    refine h_callV (n := 1) (ci := 6) (b := (RO 6)) (As := [.int (nI ns)]) (rest := []) ⟨hx, hb, hml, hown, hts⟩ hK hw (c_X6_add l D dT ah_9 H_15.size (RO 6) (RA_7 6) (cap 6) no (f_7 6) (by omega) (by omega) (by omega) (hs_7.2.1 6 (by omega)).1 (hs_7.2.1 6 (by omega)).2.1 (nI ns)) ko_X6_add km_X8_57 ki_X6_add ks_X6_add kn_X6 (by decide +kernel) rfl (hs_7.2.1 6 (by omega)).1 rfl hl.1 rfl (by simp [Value.category]) dX8_begin_39 (by rw [hR]; exact ⟨rfl, rfl, Nat.le_of_ble_eq_true rfl, Nat.le_of_ble_eq_true rfl, by simp, by simp; try omega⟩) (fun r_19 ah_20 H_21 L_22 st_23 hp hw hst => ?_)
    obtain ⟨rfl, a2_18, c2_18, g2_18, ha_18, hl_18, ho_18, hn_18, eah_20⟩ := hp
    obtain ⟨RA_18, f_18, hs_18, hr_18, hd_18, hx_18⟩ := shA_add hs_7 6 (by omega) ha_18 hl_18 ho_18 hn_18 (by show no ≤ 20000; omega) eah_20
    have hs_18 : shA dT ah_20 sh RO RA_18 (va_up (va_up cap 1 (cap 1 + rwG ns (cap 1) / 2)) 6 (cap 6 + rwG no (cap 6) / 2)) (v7 ns (ns + 1) ns nc np np (no + 1)) f_18 rc := shA_v hs_18 (by intro k9 hk9; rcases (show k9 = 0 ∨ k9 = 1 ∨ k9 = 2 ∨ k9 = 3 ∨ k9 = 4 ∨ k9 = 5 ∨ k9 = 6 by omega) with rfl | rfl | rfl | rfl | rfl | rfl | rfl <;> rfl)
    have hb_180 : ns ≤ cap 0 ∧ 32 ≤ cap 0 ∧ cap 0 ≤ 40000 := (hs_18.2.1 0 (by omega)).2.2
    have hb_181 : ns + 1 ≤ cap 1 + rwG ns (cap 1) / 2 ∧ 32 ≤ cap 1 + rwG ns (cap 1) / 2 ∧ cap 1 + rwG ns (cap 1) / 2 ≤ 40000 := (hs_18.2.1 1 (by omega)).2.2
    have hb_182 : ns ≤ cap 2 ∧ 32 ≤ cap 2 ∧ cap 2 ≤ 40000 := (hs_18.2.1 2 (by omega)).2.2
    have hb_183 : nc ≤ cap 3 ∧ 32 ≤ cap 3 ∧ cap 3 ≤ 40000 := (hs_18.2.1 3 (by omega)).2.2
    have hb_184 : np ≤ cap 4 ∧ 32 ≤ cap 4 ∧ cap 4 ≤ 40000 := (hs_18.2.1 4 (by omega)).2.2
    have hb_185 : np ≤ cap 5 ∧ 32 ≤ cap 5 ∧ cap 5 ≤ 40000 := (hs_18.2.1 5 (by omega)).2.2
    have hb_186 : no + 1 ≤ cap 6 + rwG no (cap 6) / 2 ∧ 32 ≤ cap 6 + rwG no (cap 6) / 2 ∧ cap 6 + rwG no (cap 6) / 2 ≤ 40000 := (hs_18.2.1 6 (by omega)).2.2
    have hst : st_23 = [] := hst
    subst hst
    refine lv_aload_n hx hb dX8_begin_42 rfl (lv_at hl 0 rfl) ?_
    refine h_get (ci := 8) (v := .ref (RO 0)) (C := RX8) (T := TX8) (N := 8) hx hb hts kl_X8 hown hK hw hs_18.1 rfl 0 (by decide) (hts _ kf_X8_12) rfl rfl dX8_begin_43 ?_
    refine lv_iload_n hx hb dX8_begin_46 rfl (lv_at hl 1 rfl) ?_
    refine h_callV (n := 1) (ci := 6) (b := (RO 0)) (As := [.int x]) (rest := []) ⟨hx, hb, hml, hown, hts⟩ hK hw (c_X6_add l D dT ah_20 H_21.size (RO 0) (RA_18 0) (cap 0) ns (f_18 0) (by omega) (by omega) (by omega) (hs_18.2.1 0 (by omega)).1 (hs_18.2.1 0 (by omega)).2.1 x) ko_X6_add km_X8_57 ki_X6_add ks_X6_add kn_X6 (by decide +kernel) rfl (hs_18.2.1 0 (by omega)).1 rfl hl.1 rfl (by simp [Value.category]) dX8_begin_47 (by rw [hR]; exact ⟨rfl, rfl, Nat.le_of_ble_eq_true rfl, Nat.le_of_ble_eq_true rfl, by simp, by simp; try omega⟩) (fun r_25 ah_26 H_27 L_28 st_29 hp hw hst => ?_)
    obtain ⟨rfl, a2_24, c2_24, g2_24, ha_24, hl_24, ho_24, hn_24, eah_26⟩ := hp
    obtain ⟨RA_24, f_24, hs_24, hr_24, hd_24, hx_24⟩ := shA_add hs_18 0 (by omega) ha_24 hl_24 ho_24 hn_24 (by show ns ≤ 20000; omega) eah_26
    have hs_24 : shA dT ah_26 sh RO RA_24 (va_up (va_up (va_up cap 1 (cap 1 + rwG ns (cap 1) / 2)) 6 (cap 6 + rwG no (cap 6) / 2)) 0 (cap 0 + rwG ns (cap 0) / 2)) (v7 (ns + 1) (ns + 1) ns nc np np (no + 1)) f_24 rc := shA_v hs_24 (by intro k9 hk9; rcases (show k9 = 0 ∨ k9 = 1 ∨ k9 = 2 ∨ k9 = 3 ∨ k9 = 4 ∨ k9 = 5 ∨ k9 = 6 by omega) with rfl | rfl | rfl | rfl | rfl | rfl | rfl <;> rfl)
    have hb_240 : ns + 1 ≤ cap 0 + rwG ns (cap 0) / 2 ∧ 32 ≤ cap 0 + rwG ns (cap 0) / 2 ∧ cap 0 + rwG ns (cap 0) / 2 ≤ 40000 := (hs_24.2.1 0 (by omega)).2.2
    have hb_241 : ns + 1 ≤ cap 1 + rwG ns (cap 1) / 2 ∧ 32 ≤ cap 1 + rwG ns (cap 1) / 2 ∧ cap 1 + rwG ns (cap 1) / 2 ≤ 40000 := (hs_24.2.1 1 (by omega)).2.2
    have hb_242 : ns ≤ cap 2 ∧ 32 ≤ cap 2 ∧ cap 2 ≤ 40000 := (hs_24.2.1 2 (by omega)).2.2
    have hb_243 : nc ≤ cap 3 ∧ 32 ≤ cap 3 ∧ cap 3 ≤ 40000 := (hs_24.2.1 3 (by omega)).2.2
    have hb_244 : np ≤ cap 4 ∧ 32 ≤ cap 4 ∧ cap 4 ≤ 40000 := (hs_24.2.1 4 (by omega)).2.2
    have hb_245 : np ≤ cap 5 ∧ 32 ≤ cap 5 ∧ cap 5 ≤ 40000 := (hs_24.2.1 5 (by omega)).2.2
    have hb_246 : no + 1 ≤ cap 6 + rwG no (cap 6) / 2 ∧ 32 ≤ cap 6 + rwG no (cap 6) / 2 ∧ cap 6 + rwG no (cap 6) / 2 ≤ 40000 := (hs_24.2.1 6 (by omega)).2.2
    have hst : st_29 = [] := hst
    subst hst
    refine lv_aload_n hx hb dX8_begin_50 rfl (lv_at hl 0 rfl) ?_
    refine h_get (ci := 8) (v := .ref (RO 2)) (C := RX8) (T := TX8) (N := 8) hx hb hts kl_X8 hown hK hw hs_24.1 rfl 2 (by decide) (hts _ kf_X8_21) rfl rfl dX8_begin_51 ?_
    refine lv_aload_n hx hb dX8_begin_54 rfl (lv_at hl 0 rfl) ?_
    refine h_get (ci := 8) (v := .ref (RO 3)) (C := RX8) (T := TX8) (N := 8) hx hb hts kl_X8 hown hK hw hs_24.1 rfl 3 (by decide) (hts _ kf_X8_24) rfl rfl dX8_begin_55 ?_
    refine h_callV (n := 0) (ci := 6) (b := (RO 3)) (As := []) (rest := [.ref (RO 2)]) ⟨hx, hb, hml, hown, hts⟩ hK hw (c_X6_size l D dT ah_26 H_27.size (RO 3) (RA_24 3) (cap 3) nc (f_24 3) (by omega) (by omega) (hs_24.2.1 3 (by omega)).1 (hs_24.2.1 3 (by omega)).2.1) ko_X6_size km_X8_43 ki_X6_size ks_X6_size kn_X6 (by decide +kernel) rfl (hs_24.2.1 3 (by omega)).1 rfl hl.1 rfl (by simp [Value.category]) dX8_begin_58 (by rw [hR]; exact ⟨rfl, rfl, Nat.le_of_ble_eq_true rfl, Nat.le_of_ble_eq_true rfl, (by simp; try omega), (by simp; try omega)⟩) (fun r_30 ah_31 H_32 L_33 st_34 hp hw hst => ?_)
    obtain ⟨rfl, rfl⟩ := hp
    have hst : st_34 = [.int (nI nc), .ref (RO 2)] := hst
    subst hst
    refine h_callV (n := 1) (ci := 6) (b := (RO 2)) (As := [.int (nI nc)]) (rest := []) ⟨hx, hb, hml, hown, hts⟩ hK hw (c_X6_add l D dT ah_26 H_32.size (RO 2) (RA_24 2) (cap 2) ns (f_24 2) (by omega) (by omega) (by omega) (hs_24.2.1 2 (by omega)).1 (hs_24.2.1 2 (by omega)).2.1 (nI nc)) ko_X6_add km_X8_57 ki_X6_add ks_X6_add kn_X6 (by decide +kernel) rfl (hs_24.2.1 2 (by omega)).1 rfl hl.1 rfl (by simp [Value.category]) dX8_begin_61 (by rw [hR]; exact ⟨rfl, rfl, Nat.le_of_ble_eq_true rfl, Nat.le_of_ble_eq_true rfl, by simp, by simp; try omega⟩) (fun r_36 ah_37 H_38 L_39 st_40 hp hw hst => ?_)
    obtain ⟨rfl, a2_35, c2_35, g2_35, ha_35, hl_35, ho_35, hn_35, eah_37⟩ := hp
    obtain ⟨RA_35, f_35, hs_35, hr_35, hd_35, hx_35⟩ := shA_add hs_24 2 (by omega) ha_35 hl_35 ho_35 hn_35 (by show ns ≤ 20000; omega) eah_37
    have hs_35 : shA dT ah_37 sh RO RA_35 (va_up (va_up (va_up (va_up cap 1 (cap 1 + rwG ns (cap 1) / 2)) 6 (cap 6 + rwG no (cap 6) / 2)) 0 (cap 0 + rwG ns (cap 0) / 2)) 2 (cap 2 + rwG ns (cap 2) / 2)) (v7 (ns + 1) (ns + 1) (ns + 1) nc np np (no + 1)) f_35 rc := shA_v hs_35 (by intro k9 hk9; rcases (show k9 = 0 ∨ k9 = 1 ∨ k9 = 2 ∨ k9 = 3 ∨ k9 = 4 ∨ k9 = 5 ∨ k9 = 6 by omega) with rfl | rfl | rfl | rfl | rfl | rfl | rfl <;> rfl)
    have hb_350 : ns + 1 ≤ cap 0 + rwG ns (cap 0) / 2 ∧ 32 ≤ cap 0 + rwG ns (cap 0) / 2 ∧ cap 0 + rwG ns (cap 0) / 2 ≤ 40000 := (hs_35.2.1 0 (by omega)).2.2
    have hb_351 : ns + 1 ≤ cap 1 + rwG ns (cap 1) / 2 ∧ 32 ≤ cap 1 + rwG ns (cap 1) / 2 ∧ cap 1 + rwG ns (cap 1) / 2 ≤ 40000 := (hs_35.2.1 1 (by omega)).2.2
    have hb_352 : ns + 1 ≤ cap 2 + rwG ns (cap 2) / 2 ∧ 32 ≤ cap 2 + rwG ns (cap 2) / 2 ∧ cap 2 + rwG ns (cap 2) / 2 ≤ 40000 := (hs_35.2.1 2 (by omega)).2.2
    have hb_353 : nc ≤ cap 3 ∧ 32 ≤ cap 3 ∧ cap 3 ≤ 40000 := (hs_35.2.1 3 (by omega)).2.2
    have hb_354 : np ≤ cap 4 ∧ 32 ≤ cap 4 ∧ cap 4 ≤ 40000 := (hs_35.2.1 4 (by omega)).2.2
    have hb_355 : np ≤ cap 5 ∧ 32 ≤ cap 5 ∧ cap 5 ≤ 40000 := (hs_35.2.1 5 (by omega)).2.2
    have hb_356 : no + 1 ≤ cap 6 + rwG no (cap 6) / 2 ∧ 32 ≤ cap 6 + rwG no (cap 6) / 2 ∧ cap 6 + rwG no (cap 6) / 2 ≤ 40000 := (hs_35.2.1 6 (by omega)).2.2
    have hst : st_40 = [] := hst
    subst hst
    refine lv_iload_n hx hb dX8_begin_64 rfl (lv_at hl 1 rfl) ?_
    refine lv_iconst (v := 1) hx hb dX8_begin_65 (by decide) ?_
    refine lv_icmp_eq (tgt := 74) hx hb dX8_begin_66 (by decide) (fun c_41 => ?_) (fun c_41 => ?_)
    · skip
      refine lv_aload_n hx hb dX8_begin_74 rfl (lv_at hl 0 rfl) ?_
      refine h_get (ci := 8) (v := .ref (RO 3)) (C := RX8) (T := TX8) (N := 8) hx hb hts kl_X8 hown hK hw hs_35.1 rfl 3 (by decide) (hts _ kf_X8_24) rfl rfl dX8_begin_75 ?_
      refine lv_aload_n hx hb dX8_begin_78 rfl (lv_at hl 0 rfl) ?_
      refine h_get (ci := 8) (v := .ref (RO 4)) (C := RX8) (T := TX8) (N := 8) hx hb hts kl_X8 hown hK hw hs_35.1 rfl 4 (by decide) (hts _ kf_X8_27) rfl rfl dX8_begin_79 ?_
      refine h_callV (n := 0) (ci := 6) (b := (RO 4)) (As := []) (rest := [.ref (RO 3)]) ⟨hx, hb, hml, hown, hts⟩ hK hw (c_X6_size l D dT ah_37 H_38.size (RO 4) (RA_35 4) (cap 4) np (f_35 4) (by omega) (by omega) (hs_35.2.1 4 (by omega)).1 (hs_35.2.1 4 (by omega)).2.1) ko_X6_size km_X8_43 ki_X6_size ks_X6_size kn_X6 (by decide +kernel) rfl (hs_35.2.1 4 (by omega)).1 rfl hl.1 rfl (by simp [Value.category]) dX8_begin_82 (by rw [hR]; exact ⟨rfl, rfl, Nat.le_of_ble_eq_true rfl, Nat.le_of_ble_eq_true rfl, (by simp; try omega), (by simp; try omega)⟩) (fun r_42 ah_43 H_44 L_45 st_46 hp hw hst => ?_)
      obtain ⟨rfl, rfl⟩ := hp
      have hst : st_46 = [.int (nI np), .ref (RO 3)] := hst
      subst hst
      refine h_callV (n := 1) (ci := 6) (b := (RO 3)) (As := [.int (nI np)]) (rest := []) ⟨hx, hb, hml, hown, hts⟩ hK hw (c_X6_add l D dT ah_37 H_44.size (RO 3) (RA_35 3) (cap 3) nc (f_35 3) (by omega) (by omega) (by omega) (hs_35.2.1 3 (by omega)).1 (hs_35.2.1 3 (by omega)).2.1 (nI np)) ko_X6_add km_X8_57 ki_X6_add ks_X6_add kn_X6 (by decide +kernel) rfl (hs_35.2.1 3 (by omega)).1 rfl hl.1 rfl (by simp [Value.category]) dX8_begin_85 (by rw [hR]; exact ⟨rfl, rfl, Nat.le_of_ble_eq_true rfl, Nat.le_of_ble_eq_true rfl, by simp, by simp; try omega⟩) (fun r_48 ah_49 H_50 L_51 st_52 hp hw hst => ?_)
      obtain ⟨rfl, a2_47, c2_47, g2_47, ha_47, hl_47, ho_47, hn_47, eah_49⟩ := hp
      obtain ⟨RA_47, f_47, hs_47, hr_47, hd_47, hx_47⟩ := shA_add hs_35 3 (by omega) ha_47 hl_47 ho_47 hn_47 (by show nc ≤ 20000; omega) eah_49
      have hs_47 : shA dT ah_49 sh RO RA_47 (va_up (va_up (va_up (va_up (va_up cap 1 (cap 1 + rwG ns (cap 1) / 2)) 6 (cap 6 + rwG no (cap 6) / 2)) 0 (cap 0 + rwG ns (cap 0) / 2)) 2 (cap 2 + rwG ns (cap 2) / 2)) 3 (cap 3 + rwG nc (cap 3) / 2)) (v7 (ns + 1) (ns + 1) (ns + 1) (nc + 1) np np (no + 1)) f_47 rc := shA_v hs_47 (by intro k9 hk9; rcases (show k9 = 0 ∨ k9 = 1 ∨ k9 = 2 ∨ k9 = 3 ∨ k9 = 4 ∨ k9 = 5 ∨ k9 = 6 by omega) with rfl | rfl | rfl | rfl | rfl | rfl | rfl <;> rfl)
      have hb_470 : ns + 1 ≤ cap 0 + rwG ns (cap 0) / 2 ∧ 32 ≤ cap 0 + rwG ns (cap 0) / 2 ∧ cap 0 + rwG ns (cap 0) / 2 ≤ 40000 := (hs_47.2.1 0 (by omega)).2.2
      have hb_471 : ns + 1 ≤ cap 1 + rwG ns (cap 1) / 2 ∧ 32 ≤ cap 1 + rwG ns (cap 1) / 2 ∧ cap 1 + rwG ns (cap 1) / 2 ≤ 40000 := (hs_47.2.1 1 (by omega)).2.2
      have hb_472 : ns + 1 ≤ cap 2 + rwG ns (cap 2) / 2 ∧ 32 ≤ cap 2 + rwG ns (cap 2) / 2 ∧ cap 2 + rwG ns (cap 2) / 2 ≤ 40000 := (hs_47.2.1 2 (by omega)).2.2
      have hb_473 : nc + 1 ≤ cap 3 + rwG nc (cap 3) / 2 ∧ 32 ≤ cap 3 + rwG nc (cap 3) / 2 ∧ cap 3 + rwG nc (cap 3) / 2 ≤ 40000 := (hs_47.2.1 3 (by omega)).2.2
      have hb_474 : np ≤ cap 4 ∧ 32 ≤ cap 4 ∧ cap 4 ≤ 40000 := (hs_47.2.1 4 (by omega)).2.2
      have hb_475 : np ≤ cap 5 ∧ 32 ≤ cap 5 ∧ cap 5 ≤ 40000 := (hs_47.2.1 5 (by omega)).2.2
      have hb_476 : no + 1 ≤ cap 6 + rwG no (cap 6) / 2 ∧ 32 ≤ cap 6 + rwG no (cap 6) / 2 ∧ cap 6 + rwG no (cap 6) / 2 ≤ 40000 := (hs_47.2.1 6 (by omega)).2.2
      have hst : st_52 = [] := hst
      subst hst
      refine lv_aload_n hx hb dX8_begin_88 rfl (lv_at hl 0 rfl) ?_
      refine h_get (ci := 8) (v := .ref (RO 6)) (C := RX8) (T := TX8) (N := 8) hx hb hts kl_X8 hown hK hw hs_47.1 rfl 6 (by decide) (hts _ kf_X8_33) rfl rfl dX8_begin_89 ?_
      refine h_callV (n := 0) (ci := 6) (b := (RO 6)) (As := []) (rest := []) ⟨hx, hb, hml, hown, hts⟩ hK hw (c_X6_size l D dT ah_49 H_50.size (RO 6) (RA_47 6) (cap 6 + rwG no (cap 6) / 2) (no + 1) (f_47 6) (by omega) (by omega) (hs_47.2.1 6 (by omega)).1 (hs_47.2.1 6 (by omega)).2.1) ko_X6_size km_X8_43 ki_X6_size ks_X6_size kn_X6 (by decide +kernel) rfl (hs_47.2.1 6 (by omega)).1 rfl hl.1 rfl (by simp [Value.category]) dX8_begin_92 (by rw [hR]; exact ⟨rfl, rfl, Nat.le_of_ble_eq_true rfl, Nat.le_of_ble_eq_true rfl, (by simp; try omega), (by simp; try omega)⟩) (fun r_53 ah_54 H_55 L_56 st_57 hp hw hst => ?_)
      obtain ⟨rfl, rfl⟩ := hp
      have hst : st_57 = [.int (nI (no + 1))] := hst
      subst hst
      rw [hQ]
      exact h_iret hx hb hr hlk hsz hw (by simp) (by simp; try omega) dX8_begin_95 ⟨rfl, _, _, _, _, hs_47, (shR_t (shR_t (shR_t (shR_t hr_7 hr_18) hr_24) hr_35) hr_47), (shD_t (shD_t (shD_t (shD_t hd_7 hd_18 (by intro k9 hk9; rcases (show k9 = 0 ∨ k9 = 1 ∨ k9 = 2 ∨ k9 = 3 ∨ k9 = 4 ∨ k9 = 5 ∨ k9 = 6 by omega) with rfl | rfl | rfl | rfl | rfl | rfl | rfl <;> simp [v7])) hd_24 (by intro k9 hk9; rcases (show k9 = 0 ∨ k9 = 1 ∨ k9 = 2 ∨ k9 = 3 ∨ k9 = 4 ∨ k9 = 5 ∨ k9 = 6 by omega) with rfl | rfl | rfl | rfl | rfl | rfl | rfl <;> simp [v7])) hd_35 (by intro k9 hk9; rcases (show k9 = 0 ∨ k9 = 1 ∨ k9 = 2 ∨ k9 = 3 ∨ k9 = 4 ∨ k9 = 5 ∨ k9 = 6 by omega) with rfl | rfl | rfl | rfl | rfl | rfl | rfl <;> simp [v7])) hd_47 (by intro k9 hk9; rcases (show k9 = 0 ∨ k9 = 1 ∨ k9 = 2 ∨ k9 = 3 ∨ k9 = 4 ∨ k9 = 5 ∨ k9 = 6 by omega) with rfl | rfl | rfl | rfl | rfl | rfl | rfl <;> simp [v7])), ((hd_47 0 _ (by omega) (by simp [v7])).trans ((hd_35 0 _ (by omega) (by simp [v7])).trans hx_24)), ((hd_47 1 _ (by omega) (by simp [v7])).trans ((hd_35 1 _ (by omega) (by simp [v7])).trans ((hd_24 1 _ (by omega) (by simp [v7])).trans ((hd_18 1 _ (by omega) (by simp [v7])).trans hx_7)))).trans (Eq.symm (by unfold shOuter; exact (if_pos c_6))), ((hd_47 2 _ (by omega) (by simp [v7])).trans hx_35), ((hd_47 6 _ (by omega) (by simp [v7])).trans ((hd_35 6 _ (by omega) (by simp [v7])).trans ((hd_24 6 _ (by omega) (by simp [v7])).trans hx_18))), Or.inl ⟨Or.inl c_41, rfl, hx_47⟩⟩
    · skip
      refine lv_iload_n hx hb dX8_begin_69 rfl (lv_at hl 1 rfl) ?_
      refine lv_iconst (v := 2) hx hb dX8_begin_70 (by decide) ?_
      refine lv_icmp_ne (tgt := 88) hx hb dX8_begin_71 (by decide) (fun c_58 => ?_) (fun c_58 => ?_)
      · skip
        refine lv_aload_n hx hb dX8_begin_88 rfl (lv_at hl 0 rfl) ?_
        refine h_get (ci := 8) (v := .ref (RO 6)) (C := RX8) (T := TX8) (N := 8) hx hb hts kl_X8 hown hK hw hs_35.1 rfl 6 (by decide) (hts _ kf_X8_33) rfl rfl dX8_begin_89 ?_
        refine h_callV (n := 0) (ci := 6) (b := (RO 6)) (As := []) (rest := []) ⟨hx, hb, hml, hown, hts⟩ hK hw (c_X6_size l D dT ah_37 H_38.size (RO 6) (RA_35 6) (cap 6 + rwG no (cap 6) / 2) (no + 1) (f_35 6) (by omega) (by omega) (hs_35.2.1 6 (by omega)).1 (hs_35.2.1 6 (by omega)).2.1) ko_X6_size km_X8_43 ki_X6_size ks_X6_size kn_X6 (by decide +kernel) rfl (hs_35.2.1 6 (by omega)).1 rfl hl.1 rfl (by simp [Value.category]) dX8_begin_92 (by rw [hR]; exact ⟨rfl, rfl, Nat.le_of_ble_eq_true rfl, Nat.le_of_ble_eq_true rfl, (by simp; try omega), (by simp; try omega)⟩) (fun r_59 ah_60 H_61 L_62 st_63 hp hw hst => ?_)
        obtain ⟨rfl, rfl⟩ := hp
        have hst : st_63 = [.int (nI (no + 1))] := hst
        subst hst
        rw [hQ]
        exact h_iret hx hb hr hlk hsz hw (by simp) (by simp; try omega) dX8_begin_95 ⟨rfl, _, _, _, _, hs_35, (shR_t (shR_t (shR_t hr_7 hr_18) hr_24) hr_35), (shD_t (shD_t (shD_t hd_7 hd_18 (by intro k9 hk9; rcases (show k9 = 0 ∨ k9 = 1 ∨ k9 = 2 ∨ k9 = 3 ∨ k9 = 4 ∨ k9 = 5 ∨ k9 = 6 by omega) with rfl | rfl | rfl | rfl | rfl | rfl | rfl <;> simp [v7])) hd_24 (by intro k9 hk9; rcases (show k9 = 0 ∨ k9 = 1 ∨ k9 = 2 ∨ k9 = 3 ∨ k9 = 4 ∨ k9 = 5 ∨ k9 = 6 by omega) with rfl | rfl | rfl | rfl | rfl | rfl | rfl <;> simp [v7])) hd_35 (by intro k9 hk9; rcases (show k9 = 0 ∨ k9 = 1 ∨ k9 = 2 ∨ k9 = 3 ∨ k9 = 4 ∨ k9 = 5 ∨ k9 = 6 by omega) with rfl | rfl | rfl | rfl | rfl | rfl | rfl <;> simp [v7])), ((hd_35 0 _ (by omega) (by simp [v7])).trans hx_24), ((hd_35 1 _ (by omega) (by simp [v7])).trans ((hd_24 1 _ (by omega) (by simp [v7])).trans ((hd_18 1 _ (by omega) (by simp [v7])).trans hx_7))).trans (Eq.symm (by unfold shOuter; exact (if_pos c_6))), hx_35, ((hd_35 6 _ (by omega) (by simp [v7])).trans ((hd_24 6 _ (by omega) (by simp [v7])).trans hx_18)), Or.inr ⟨(by rintro (h9 | h9); exact c_41 h9; exact c_58 h9), rfl⟩⟩
      · skip
        refine lv_aload_n hx hb dX8_begin_74 rfl (lv_at hl 0 rfl) ?_
        refine h_get (ci := 8) (v := .ref (RO 3)) (C := RX8) (T := TX8) (N := 8) hx hb hts kl_X8 hown hK hw hs_35.1 rfl 3 (by decide) (hts _ kf_X8_24) rfl rfl dX8_begin_75 ?_
        refine lv_aload_n hx hb dX8_begin_78 rfl (lv_at hl 0 rfl) ?_
        refine h_get (ci := 8) (v := .ref (RO 4)) (C := RX8) (T := TX8) (N := 8) hx hb hts kl_X8 hown hK hw hs_35.1 rfl 4 (by decide) (hts _ kf_X8_27) rfl rfl dX8_begin_79 ?_
        refine h_callV (n := 0) (ci := 6) (b := (RO 4)) (As := []) (rest := [.ref (RO 3)]) ⟨hx, hb, hml, hown, hts⟩ hK hw (c_X6_size l D dT ah_37 H_38.size (RO 4) (RA_35 4) (cap 4) np (f_35 4) (by omega) (by omega) (hs_35.2.1 4 (by omega)).1 (hs_35.2.1 4 (by omega)).2.1) ko_X6_size km_X8_43 ki_X6_size ks_X6_size kn_X6 (by decide +kernel) rfl (hs_35.2.1 4 (by omega)).1 rfl hl.1 rfl (by simp [Value.category]) dX8_begin_82 (by rw [hR]; exact ⟨rfl, rfl, Nat.le_of_ble_eq_true rfl, Nat.le_of_ble_eq_true rfl, (by simp; try omega), (by simp; try omega)⟩) (fun r_64 ah_65 H_66 L_67 st_68 hp hw hst => ?_)
        obtain ⟨rfl, rfl⟩ := hp
        have hst : st_68 = [.int (nI np), .ref (RO 3)] := hst
        subst hst
        refine h_callV (n := 1) (ci := 6) (b := (RO 3)) (As := [.int (nI np)]) (rest := []) ⟨hx, hb, hml, hown, hts⟩ hK hw (c_X6_add l D dT ah_37 H_66.size (RO 3) (RA_35 3) (cap 3) nc (f_35 3) (by omega) (by omega) (by omega) (hs_35.2.1 3 (by omega)).1 (hs_35.2.1 3 (by omega)).2.1 (nI np)) ko_X6_add km_X8_57 ki_X6_add ks_X6_add kn_X6 (by decide +kernel) rfl (hs_35.2.1 3 (by omega)).1 rfl hl.1 rfl (by simp [Value.category]) dX8_begin_85 (by rw [hR]; exact ⟨rfl, rfl, Nat.le_of_ble_eq_true rfl, Nat.le_of_ble_eq_true rfl, by simp, by simp; try omega⟩) (fun r_70 ah_71 H_72 L_73 st_74 hp hw hst => ?_)
        obtain ⟨rfl, a2_69, c2_69, g2_69, ha_69, hl_69, ho_69, hn_69, eah_71⟩ := hp
        obtain ⟨RA_69, f_69, hs_69, hr_69, hd_69, hx_69⟩ := shA_add hs_35 3 (by omega) ha_69 hl_69 ho_69 hn_69 (by show nc ≤ 20000; omega) eah_71
        have hs_69 : shA dT ah_71 sh RO RA_69 (va_up (va_up (va_up (va_up (va_up cap 1 (cap 1 + rwG ns (cap 1) / 2)) 6 (cap 6 + rwG no (cap 6) / 2)) 0 (cap 0 + rwG ns (cap 0) / 2)) 2 (cap 2 + rwG ns (cap 2) / 2)) 3 (cap 3 + rwG nc (cap 3) / 2)) (v7 (ns + 1) (ns + 1) (ns + 1) (nc + 1) np np (no + 1)) f_69 rc := shA_v hs_69 (by intro k9 hk9; rcases (show k9 = 0 ∨ k9 = 1 ∨ k9 = 2 ∨ k9 = 3 ∨ k9 = 4 ∨ k9 = 5 ∨ k9 = 6 by omega) with rfl | rfl | rfl | rfl | rfl | rfl | rfl <;> rfl)
        have hb_690 : ns + 1 ≤ cap 0 + rwG ns (cap 0) / 2 ∧ 32 ≤ cap 0 + rwG ns (cap 0) / 2 ∧ cap 0 + rwG ns (cap 0) / 2 ≤ 40000 := (hs_69.2.1 0 (by omega)).2.2
        have hb_691 : ns + 1 ≤ cap 1 + rwG ns (cap 1) / 2 ∧ 32 ≤ cap 1 + rwG ns (cap 1) / 2 ∧ cap 1 + rwG ns (cap 1) / 2 ≤ 40000 := (hs_69.2.1 1 (by omega)).2.2
        have hb_692 : ns + 1 ≤ cap 2 + rwG ns (cap 2) / 2 ∧ 32 ≤ cap 2 + rwG ns (cap 2) / 2 ∧ cap 2 + rwG ns (cap 2) / 2 ≤ 40000 := (hs_69.2.1 2 (by omega)).2.2
        have hb_693 : nc + 1 ≤ cap 3 + rwG nc (cap 3) / 2 ∧ 32 ≤ cap 3 + rwG nc (cap 3) / 2 ∧ cap 3 + rwG nc (cap 3) / 2 ≤ 40000 := (hs_69.2.1 3 (by omega)).2.2
        have hb_694 : np ≤ cap 4 ∧ 32 ≤ cap 4 ∧ cap 4 ≤ 40000 := (hs_69.2.1 4 (by omega)).2.2
        have hb_695 : np ≤ cap 5 ∧ 32 ≤ cap 5 ∧ cap 5 ≤ 40000 := (hs_69.2.1 5 (by omega)).2.2
        have hb_696 : no + 1 ≤ cap 6 + rwG no (cap 6) / 2 ∧ 32 ≤ cap 6 + rwG no (cap 6) / 2 ∧ cap 6 + rwG no (cap 6) / 2 ≤ 40000 := (hs_69.2.1 6 (by omega)).2.2
        have hst : st_74 = [] := hst
        subst hst
        refine lv_aload_n hx hb dX8_begin_88 rfl (lv_at hl 0 rfl) ?_
        refine h_get (ci := 8) (v := .ref (RO 6)) (C := RX8) (T := TX8) (N := 8) hx hb hts kl_X8 hown hK hw hs_69.1 rfl 6 (by decide) (hts _ kf_X8_33) rfl rfl dX8_begin_89 ?_
        refine h_callV (n := 0) (ci := 6) (b := (RO 6)) (As := []) (rest := []) ⟨hx, hb, hml, hown, hts⟩ hK hw (c_X6_size l D dT ah_71 H_72.size (RO 6) (RA_69 6) (cap 6 + rwG no (cap 6) / 2) (no + 1) (f_69 6) (by omega) (by omega) (hs_69.2.1 6 (by omega)).1 (hs_69.2.1 6 (by omega)).2.1) ko_X6_size km_X8_43 ki_X6_size ks_X6_size kn_X6 (by decide +kernel) rfl (hs_69.2.1 6 (by omega)).1 rfl hl.1 rfl (by simp [Value.category]) dX8_begin_92 (by rw [hR]; exact ⟨rfl, rfl, Nat.le_of_ble_eq_true rfl, Nat.le_of_ble_eq_true rfl, (by simp; try omega), (by simp; try omega)⟩) (fun r_75 ah_76 H_77 L_78 st_79 hp hw hst => ?_)
        obtain ⟨rfl, rfl⟩ := hp
        have hst : st_79 = [.int (nI (no + 1))] := hst
        subst hst
        rw [hQ]
        exact h_iret hx hb hr hlk hsz hw (by simp) (by simp; try omega) dX8_begin_95 ⟨rfl, _, _, _, _, hs_69, (shR_t (shR_t (shR_t (shR_t hr_7 hr_18) hr_24) hr_35) hr_69), (shD_t (shD_t (shD_t (shD_t hd_7 hd_18 (by intro k9 hk9; rcases (show k9 = 0 ∨ k9 = 1 ∨ k9 = 2 ∨ k9 = 3 ∨ k9 = 4 ∨ k9 = 5 ∨ k9 = 6 by omega) with rfl | rfl | rfl | rfl | rfl | rfl | rfl <;> simp [v7])) hd_24 (by intro k9 hk9; rcases (show k9 = 0 ∨ k9 = 1 ∨ k9 = 2 ∨ k9 = 3 ∨ k9 = 4 ∨ k9 = 5 ∨ k9 = 6 by omega) with rfl | rfl | rfl | rfl | rfl | rfl | rfl <;> simp [v7])) hd_35 (by intro k9 hk9; rcases (show k9 = 0 ∨ k9 = 1 ∨ k9 = 2 ∨ k9 = 3 ∨ k9 = 4 ∨ k9 = 5 ∨ k9 = 6 by omega) with rfl | rfl | rfl | rfl | rfl | rfl | rfl <;> simp [v7])) hd_69 (by intro k9 hk9; rcases (show k9 = 0 ∨ k9 = 1 ∨ k9 = 2 ∨ k9 = 3 ∨ k9 = 4 ∨ k9 = 5 ∨ k9 = 6 by omega) with rfl | rfl | rfl | rfl | rfl | rfl | rfl <;> simp [v7])), ((hd_69 0 _ (by omega) (by simp [v7])).trans ((hd_35 0 _ (by omega) (by simp [v7])).trans hx_24)), ((hd_69 1 _ (by omega) (by simp [v7])).trans ((hd_35 1 _ (by omega) (by simp [v7])).trans ((hd_24 1 _ (by omega) (by simp [v7])).trans ((hd_18 1 _ (by omega) (by simp [v7])).trans hx_7)))).trans (Eq.symm (by unfold shOuter; exact (if_pos c_6))), ((hd_69 2 _ (by omega) (by simp [v7])).trans hx_35), ((hd_69 6 _ (by omega) (by simp [v7])).trans ((hd_35 6 _ (by omega) (by simp [v7])).trans ((hd_24 6 _ (by omega) (by simp [v7])).trans hx_18))), Or.inl ⟨Or.inr c_58, rfl, hx_69⟩⟩
  · skip
    have c_6 : ¬ (no ≤ 0) := (not_congr (nI_lex (by rfl) (by decide) (by omega) (by omega))).mp c_6
    refine lv_aload_n hx hb dX8_begin_14 rfl (lv_at hl 0 rfl) ?_
    refine h_get (ci := 8) (v := .ref (RO 6)) (C := RX8) (T := TX8) (N := 8) hx hb hts kl_X8 hown hK hw hs.1 rfl 6 (by decide) (hts _ kf_X8_33) rfl rfl dX8_begin_15 ?_
    refine h_callV (n := 0) (ci := 6) (b := (RO 6)) (As := []) (rest := [.ref (RO 1)]) ⟨hx, hb, hml, hown, hts⟩ hK hw (c_X6_last l D dT ah H_3.size (RO 6) (RA 6) (cap 6) no (f 6) (by omega) (by omega) (hs.2.1 6 (by omega)).1 (hs.2.1 6 (by omega)).2.1) ko_X6_last km_X8_51 ki_X6_last ks_X6_last kn_X6 (by decide +kernel) rfl (hs.2.1 6 (by omega)).1 rfl hl.1 rfl (by simp [Value.category]) dX8_begin_18 (by rw [hR]; exact ⟨rfl, rfl, Nat.le_of_ble_eq_true rfl, Nat.le_of_ble_eq_true rfl, (by simp; try omega), (by simp; try omega)⟩) (fun r_80 ah_81 H_82 L_83 st_84 hp hw hst => ?_)
    obtain ⟨rfl, rfl⟩ := hp
    have hst : st_84 = [.int (rwGet (f 6) no (nI no - 1)), .ref (RO 1)] := hst
    subst hst
    refine lv_goto (tgt := 25) hx hb dX8_begin_21 (by decide) ?_
    refine h_callV (n := 1) (ci := 6) (b := (RO 1)) (As := [.int (rwGet (f 6) no (nI no - 1))]) (rest := []) ⟨hx, hb, hml, hown, hts⟩ hK hw (c_X6_add l D dT ah H_82.size (RO 1) (RA 1) (cap 1) ns (f 1) (by omega) (by omega) (by omega) (hs.2.1 1 (by omega)).1 (hs.2.1 1 (by omega)).2.1 (rwGet (f 6) no (nI no - 1))) ko_X6_add km_X8_57 ki_X6_add ks_X6_add kn_X6 (by decide +kernel) rfl (hs.2.1 1 (by omega)).1 rfl hl.1 rfl (by simp [Value.category]) dX8_begin_25 (by rw [hR]; exact ⟨rfl, rfl, Nat.le_of_ble_eq_true rfl, Nat.le_of_ble_eq_true rfl, by simp, by simp; try omega⟩) (fun r_86 ah_87 H_88 L_89 st_90 hp hw hst => ?_)
    obtain ⟨rfl, a2_85, c2_85, g2_85, ha_85, hl_85, ho_85, hn_85, eah_87⟩ := hp
    obtain ⟨RA_85, f_85, hs_85, hr_85, hd_85, hx_85⟩ := shA_add hs 1 (by omega) ha_85 hl_85 ho_85 hn_85 (by show ns ≤ 20000; omega) eah_87
    have hs_85 : shA dT ah_87 sh RO RA_85 (va_up cap 1 (cap 1 + rwG ns (cap 1) / 2)) (v7 ns (ns + 1) ns nc np np no) f_85 rc := shA_v hs_85 (by intro k9 hk9; rcases (show k9 = 0 ∨ k9 = 1 ∨ k9 = 2 ∨ k9 = 3 ∨ k9 = 4 ∨ k9 = 5 ∨ k9 = 6 by omega) with rfl | rfl | rfl | rfl | rfl | rfl | rfl <;> rfl)
    have hb_850 : ns ≤ cap 0 ∧ 32 ≤ cap 0 ∧ cap 0 ≤ 40000 := (hs_85.2.1 0 (by omega)).2.2
    have hb_851 : ns + 1 ≤ cap 1 + rwG ns (cap 1) / 2 ∧ 32 ≤ cap 1 + rwG ns (cap 1) / 2 ∧ cap 1 + rwG ns (cap 1) / 2 ≤ 40000 := (hs_85.2.1 1 (by omega)).2.2
    have hb_852 : ns ≤ cap 2 ∧ 32 ≤ cap 2 ∧ cap 2 ≤ 40000 := (hs_85.2.1 2 (by omega)).2.2
    have hb_853 : nc ≤ cap 3 ∧ 32 ≤ cap 3 ∧ cap 3 ≤ 40000 := (hs_85.2.1 3 (by omega)).2.2
    have hb_854 : np ≤ cap 4 ∧ 32 ≤ cap 4 ∧ cap 4 ≤ 40000 := (hs_85.2.1 4 (by omega)).2.2
    have hb_855 : np ≤ cap 5 ∧ 32 ≤ cap 5 ∧ cap 5 ≤ 40000 := (hs_85.2.1 5 (by omega)).2.2
    have hb_856 : no ≤ cap 6 ∧ 32 ≤ cap 6 ∧ cap 6 ≤ 40000 := (hs_85.2.1 6 (by omega)).2.2
    have hst : st_90 = [] := hst
    subst hst
    refine lv_aload_n hx hb dX8_begin_28 rfl (lv_at hl 0 rfl) ?_
    refine h_get (ci := 8) (v := .ref (RO 6)) (C := RX8) (T := TX8) (N := 8) hx hb hts kl_X8 hown hK hw hs_85.1 rfl 6 (by decide) (hts _ kf_X8_33) rfl rfl dX8_begin_29 ?_
    refine lv_aload_n hx hb dX8_begin_32 rfl (lv_at hl 0 rfl) ?_
    refine h_get (ci := 8) (v := .ref (RO 0)) (C := RX8) (T := TX8) (N := 8) hx hb hts kl_X8 hown hK hw hs_85.1 rfl 0 (by decide) (hts _ kf_X8_12) rfl rfl dX8_begin_33 ?_
    refine h_callV (n := 0) (ci := 6) (b := (RO 0)) (As := []) (rest := [.ref (RO 6)]) ⟨hx, hb, hml, hown, hts⟩ hK hw (c_X6_size l D dT ah_87 H_88.size (RO 0) (RA_85 0) (cap 0) ns (f_85 0) (by omega) (by omega) (hs_85.2.1 0 (by omega)).1 (hs_85.2.1 0 (by omega)).2.1) ko_X6_size km_X8_43 ki_X6_size ks_X6_size kn_X6 (by decide +kernel) rfl (hs_85.2.1 0 (by omega)).1 rfl hl.1 rfl (by simp [Value.category]) dX8_begin_36 (by rw [hR]; exact ⟨rfl, rfl, Nat.le_of_ble_eq_true rfl, Nat.le_of_ble_eq_true rfl, (by simp; try omega), (by simp; try omega)⟩) (fun r_91 ah_92 H_93 L_94 st_95 hp hw hst => ?_)
    obtain ⟨rfl, rfl⟩ := hp
    have hst : st_95 = [.int (nI ns), .ref (RO 6)] := hst
    subst hst
    refine h_callV (n := 1) (ci := 6) (b := (RO 6)) (As := [.int (nI ns)]) (rest := []) ⟨hx, hb, hml, hown, hts⟩ hK hw (c_X6_add l D dT ah_87 H_93.size (RO 6) (RA_85 6) (cap 6) no (f_85 6) (by omega) (by omega) (by omega) (hs_85.2.1 6 (by omega)).1 (hs_85.2.1 6 (by omega)).2.1 (nI ns)) ko_X6_add km_X8_57 ki_X6_add ks_X6_add kn_X6 (by decide +kernel) rfl (hs_85.2.1 6 (by omega)).1 rfl hl.1 rfl (by simp [Value.category]) dX8_begin_39 (by rw [hR]; exact ⟨rfl, rfl, Nat.le_of_ble_eq_true rfl, Nat.le_of_ble_eq_true rfl, by simp, by simp; try omega⟩) (fun r_97 ah_98 H_99 L_100 st_101 hp hw hst => ?_)
    obtain ⟨rfl, a2_96, c2_96, g2_96, ha_96, hl_96, ho_96, hn_96, eah_98⟩ := hp
    obtain ⟨RA_96, f_96, hs_96, hr_96, hd_96, hx_96⟩ := shA_add hs_85 6 (by omega) ha_96 hl_96 ho_96 hn_96 (by show no ≤ 20000; omega) eah_98
    have hs_96 : shA dT ah_98 sh RO RA_96 (va_up (va_up cap 1 (cap 1 + rwG ns (cap 1) / 2)) 6 (cap 6 + rwG no (cap 6) / 2)) (v7 ns (ns + 1) ns nc np np (no + 1)) f_96 rc := shA_v hs_96 (by intro k9 hk9; rcases (show k9 = 0 ∨ k9 = 1 ∨ k9 = 2 ∨ k9 = 3 ∨ k9 = 4 ∨ k9 = 5 ∨ k9 = 6 by omega) with rfl | rfl | rfl | rfl | rfl | rfl | rfl <;> rfl)
    have hb_960 : ns ≤ cap 0 ∧ 32 ≤ cap 0 ∧ cap 0 ≤ 40000 := (hs_96.2.1 0 (by omega)).2.2
    have hb_961 : ns + 1 ≤ cap 1 + rwG ns (cap 1) / 2 ∧ 32 ≤ cap 1 + rwG ns (cap 1) / 2 ∧ cap 1 + rwG ns (cap 1) / 2 ≤ 40000 := (hs_96.2.1 1 (by omega)).2.2
    have hb_962 : ns ≤ cap 2 ∧ 32 ≤ cap 2 ∧ cap 2 ≤ 40000 := (hs_96.2.1 2 (by omega)).2.2
    have hb_963 : nc ≤ cap 3 ∧ 32 ≤ cap 3 ∧ cap 3 ≤ 40000 := (hs_96.2.1 3 (by omega)).2.2
    have hb_964 : np ≤ cap 4 ∧ 32 ≤ cap 4 ∧ cap 4 ≤ 40000 := (hs_96.2.1 4 (by omega)).2.2
    have hb_965 : np ≤ cap 5 ∧ 32 ≤ cap 5 ∧ cap 5 ≤ 40000 := (hs_96.2.1 5 (by omega)).2.2
    have hb_966 : no + 1 ≤ cap 6 + rwG no (cap 6) / 2 ∧ 32 ≤ cap 6 + rwG no (cap 6) / 2 ∧ cap 6 + rwG no (cap 6) / 2 ≤ 40000 := (hs_96.2.1 6 (by omega)).2.2
    have hst : st_101 = [] := hst
    subst hst
    refine lv_aload_n hx hb dX8_begin_42 rfl (lv_at hl 0 rfl) ?_
    refine h_get (ci := 8) (v := .ref (RO 0)) (C := RX8) (T := TX8) (N := 8) hx hb hts kl_X8 hown hK hw hs_96.1 rfl 0 (by decide) (hts _ kf_X8_12) rfl rfl dX8_begin_43 ?_
    refine lv_iload_n hx hb dX8_begin_46 rfl (lv_at hl 1 rfl) ?_
    refine h_callV (n := 1) (ci := 6) (b := (RO 0)) (As := [.int x]) (rest := []) ⟨hx, hb, hml, hown, hts⟩ hK hw (c_X6_add l D dT ah_98 H_99.size (RO 0) (RA_96 0) (cap 0) ns (f_96 0) (by omega) (by omega) (by omega) (hs_96.2.1 0 (by omega)).1 (hs_96.2.1 0 (by omega)).2.1 x) ko_X6_add km_X8_57 ki_X6_add ks_X6_add kn_X6 (by decide +kernel) rfl (hs_96.2.1 0 (by omega)).1 rfl hl.1 rfl (by simp [Value.category]) dX8_begin_47 (by rw [hR]; exact ⟨rfl, rfl, Nat.le_of_ble_eq_true rfl, Nat.le_of_ble_eq_true rfl, by simp, by simp; try omega⟩) (fun r_103 ah_104 H_105 L_106 st_107 hp hw hst => ?_)
    obtain ⟨rfl, a2_102, c2_102, g2_102, ha_102, hl_102, ho_102, hn_102, eah_104⟩ := hp
    obtain ⟨RA_102, f_102, hs_102, hr_102, hd_102, hx_102⟩ := shA_add hs_96 0 (by omega) ha_102 hl_102 ho_102 hn_102 (by show ns ≤ 20000; omega) eah_104
    have hs_102 : shA dT ah_104 sh RO RA_102 (va_up (va_up (va_up cap 1 (cap 1 + rwG ns (cap 1) / 2)) 6 (cap 6 + rwG no (cap 6) / 2)) 0 (cap 0 + rwG ns (cap 0) / 2)) (v7 (ns + 1) (ns + 1) ns nc np np (no + 1)) f_102 rc := shA_v hs_102 (by intro k9 hk9; rcases (show k9 = 0 ∨ k9 = 1 ∨ k9 = 2 ∨ k9 = 3 ∨ k9 = 4 ∨ k9 = 5 ∨ k9 = 6 by omega) with rfl | rfl | rfl | rfl | rfl | rfl | rfl <;> rfl)
    have hb_1020 : ns + 1 ≤ cap 0 + rwG ns (cap 0) / 2 ∧ 32 ≤ cap 0 + rwG ns (cap 0) / 2 ∧ cap 0 + rwG ns (cap 0) / 2 ≤ 40000 := (hs_102.2.1 0 (by omega)).2.2
    have hb_1021 : ns + 1 ≤ cap 1 + rwG ns (cap 1) / 2 ∧ 32 ≤ cap 1 + rwG ns (cap 1) / 2 ∧ cap 1 + rwG ns (cap 1) / 2 ≤ 40000 := (hs_102.2.1 1 (by omega)).2.2
    have hb_1022 : ns ≤ cap 2 ∧ 32 ≤ cap 2 ∧ cap 2 ≤ 40000 := (hs_102.2.1 2 (by omega)).2.2
    have hb_1023 : nc ≤ cap 3 ∧ 32 ≤ cap 3 ∧ cap 3 ≤ 40000 := (hs_102.2.1 3 (by omega)).2.2
    have hb_1024 : np ≤ cap 4 ∧ 32 ≤ cap 4 ∧ cap 4 ≤ 40000 := (hs_102.2.1 4 (by omega)).2.2
    have hb_1025 : np ≤ cap 5 ∧ 32 ≤ cap 5 ∧ cap 5 ≤ 40000 := (hs_102.2.1 5 (by omega)).2.2
    have hb_1026 : no + 1 ≤ cap 6 + rwG no (cap 6) / 2 ∧ 32 ≤ cap 6 + rwG no (cap 6) / 2 ∧ cap 6 + rwG no (cap 6) / 2 ≤ 40000 := (hs_102.2.1 6 (by omega)).2.2
    have hst : st_107 = [] := hst
    subst hst
    refine lv_aload_n hx hb dX8_begin_50 rfl (lv_at hl 0 rfl) ?_
    refine h_get (ci := 8) (v := .ref (RO 2)) (C := RX8) (T := TX8) (N := 8) hx hb hts kl_X8 hown hK hw hs_102.1 rfl 2 (by decide) (hts _ kf_X8_21) rfl rfl dX8_begin_51 ?_
    refine lv_aload_n hx hb dX8_begin_54 rfl (lv_at hl 0 rfl) ?_
    refine h_get (ci := 8) (v := .ref (RO 3)) (C := RX8) (T := TX8) (N := 8) hx hb hts kl_X8 hown hK hw hs_102.1 rfl 3 (by decide) (hts _ kf_X8_24) rfl rfl dX8_begin_55 ?_
    refine h_callV (n := 0) (ci := 6) (b := (RO 3)) (As := []) (rest := [.ref (RO 2)]) ⟨hx, hb, hml, hown, hts⟩ hK hw (c_X6_size l D dT ah_104 H_105.size (RO 3) (RA_102 3) (cap 3) nc (f_102 3) (by omega) (by omega) (hs_102.2.1 3 (by omega)).1 (hs_102.2.1 3 (by omega)).2.1) ko_X6_size km_X8_43 ki_X6_size ks_X6_size kn_X6 (by decide +kernel) rfl (hs_102.2.1 3 (by omega)).1 rfl hl.1 rfl (by simp [Value.category]) dX8_begin_58 (by rw [hR]; exact ⟨rfl, rfl, Nat.le_of_ble_eq_true rfl, Nat.le_of_ble_eq_true rfl, (by simp; try omega), (by simp; try omega)⟩) (fun r_108 ah_109 H_110 L_111 st_112 hp hw hst => ?_)
    obtain ⟨rfl, rfl⟩ := hp
    have hst : st_112 = [.int (nI nc), .ref (RO 2)] := hst
    subst hst
    refine h_callV (n := 1) (ci := 6) (b := (RO 2)) (As := [.int (nI nc)]) (rest := []) ⟨hx, hb, hml, hown, hts⟩ hK hw (c_X6_add l D dT ah_104 H_110.size (RO 2) (RA_102 2) (cap 2) ns (f_102 2) (by omega) (by omega) (by omega) (hs_102.2.1 2 (by omega)).1 (hs_102.2.1 2 (by omega)).2.1 (nI nc)) ko_X6_add km_X8_57 ki_X6_add ks_X6_add kn_X6 (by decide +kernel) rfl (hs_102.2.1 2 (by omega)).1 rfl hl.1 rfl (by simp [Value.category]) dX8_begin_61 (by rw [hR]; exact ⟨rfl, rfl, Nat.le_of_ble_eq_true rfl, Nat.le_of_ble_eq_true rfl, by simp, by simp; try omega⟩) (fun r_114 ah_115 H_116 L_117 st_118 hp hw hst => ?_)
    obtain ⟨rfl, a2_113, c2_113, g2_113, ha_113, hl_113, ho_113, hn_113, eah_115⟩ := hp
    obtain ⟨RA_113, f_113, hs_113, hr_113, hd_113, hx_113⟩ := shA_add hs_102 2 (by omega) ha_113 hl_113 ho_113 hn_113 (by show ns ≤ 20000; omega) eah_115
    have hs_113 : shA dT ah_115 sh RO RA_113 (va_up (va_up (va_up (va_up cap 1 (cap 1 + rwG ns (cap 1) / 2)) 6 (cap 6 + rwG no (cap 6) / 2)) 0 (cap 0 + rwG ns (cap 0) / 2)) 2 (cap 2 + rwG ns (cap 2) / 2)) (v7 (ns + 1) (ns + 1) (ns + 1) nc np np (no + 1)) f_113 rc := shA_v hs_113 (by intro k9 hk9; rcases (show k9 = 0 ∨ k9 = 1 ∨ k9 = 2 ∨ k9 = 3 ∨ k9 = 4 ∨ k9 = 5 ∨ k9 = 6 by omega) with rfl | rfl | rfl | rfl | rfl | rfl | rfl <;> rfl)
    have hb_1130 : ns + 1 ≤ cap 0 + rwG ns (cap 0) / 2 ∧ 32 ≤ cap 0 + rwG ns (cap 0) / 2 ∧ cap 0 + rwG ns (cap 0) / 2 ≤ 40000 := (hs_113.2.1 0 (by omega)).2.2
    have hb_1131 : ns + 1 ≤ cap 1 + rwG ns (cap 1) / 2 ∧ 32 ≤ cap 1 + rwG ns (cap 1) / 2 ∧ cap 1 + rwG ns (cap 1) / 2 ≤ 40000 := (hs_113.2.1 1 (by omega)).2.2
    have hb_1132 : ns + 1 ≤ cap 2 + rwG ns (cap 2) / 2 ∧ 32 ≤ cap 2 + rwG ns (cap 2) / 2 ∧ cap 2 + rwG ns (cap 2) / 2 ≤ 40000 := (hs_113.2.1 2 (by omega)).2.2
    have hb_1133 : nc ≤ cap 3 ∧ 32 ≤ cap 3 ∧ cap 3 ≤ 40000 := (hs_113.2.1 3 (by omega)).2.2
    have hb_1134 : np ≤ cap 4 ∧ 32 ≤ cap 4 ∧ cap 4 ≤ 40000 := (hs_113.2.1 4 (by omega)).2.2
    have hb_1135 : np ≤ cap 5 ∧ 32 ≤ cap 5 ∧ cap 5 ≤ 40000 := (hs_113.2.1 5 (by omega)).2.2
    have hb_1136 : no + 1 ≤ cap 6 + rwG no (cap 6) / 2 ∧ 32 ≤ cap 6 + rwG no (cap 6) / 2 ∧ cap 6 + rwG no (cap 6) / 2 ≤ 40000 := (hs_113.2.1 6 (by omega)).2.2
    have hst : st_118 = [] := hst
    subst hst
    refine lv_iload_n hx hb dX8_begin_64 rfl (lv_at hl 1 rfl) ?_
    refine lv_iconst (v := 1) hx hb dX8_begin_65 (by decide) ?_
    refine lv_icmp_eq (tgt := 74) hx hb dX8_begin_66 (by decide) (fun c_119 => ?_) (fun c_119 => ?_)
    · skip
      refine lv_aload_n hx hb dX8_begin_74 rfl (lv_at hl 0 rfl) ?_
      refine h_get (ci := 8) (v := .ref (RO 3)) (C := RX8) (T := TX8) (N := 8) hx hb hts kl_X8 hown hK hw hs_113.1 rfl 3 (by decide) (hts _ kf_X8_24) rfl rfl dX8_begin_75 ?_
      refine lv_aload_n hx hb dX8_begin_78 rfl (lv_at hl 0 rfl) ?_
      refine h_get (ci := 8) (v := .ref (RO 4)) (C := RX8) (T := TX8) (N := 8) hx hb hts kl_X8 hown hK hw hs_113.1 rfl 4 (by decide) (hts _ kf_X8_27) rfl rfl dX8_begin_79 ?_
      refine h_callV (n := 0) (ci := 6) (b := (RO 4)) (As := []) (rest := [.ref (RO 3)]) ⟨hx, hb, hml, hown, hts⟩ hK hw (c_X6_size l D dT ah_115 H_116.size (RO 4) (RA_113 4) (cap 4) np (f_113 4) (by omega) (by omega) (hs_113.2.1 4 (by omega)).1 (hs_113.2.1 4 (by omega)).2.1) ko_X6_size km_X8_43 ki_X6_size ks_X6_size kn_X6 (by decide +kernel) rfl (hs_113.2.1 4 (by omega)).1 rfl hl.1 rfl (by simp [Value.category]) dX8_begin_82 (by rw [hR]; exact ⟨rfl, rfl, Nat.le_of_ble_eq_true rfl, Nat.le_of_ble_eq_true rfl, (by simp; try omega), (by simp; try omega)⟩) (fun r_120 ah_121 H_122 L_123 st_124 hp hw hst => ?_)
      obtain ⟨rfl, rfl⟩ := hp
      have hst : st_124 = [.int (nI np), .ref (RO 3)] := hst
      subst hst
      refine h_callV (n := 1) (ci := 6) (b := (RO 3)) (As := [.int (nI np)]) (rest := []) ⟨hx, hb, hml, hown, hts⟩ hK hw (c_X6_add l D dT ah_115 H_122.size (RO 3) (RA_113 3) (cap 3) nc (f_113 3) (by omega) (by omega) (by omega) (hs_113.2.1 3 (by omega)).1 (hs_113.2.1 3 (by omega)).2.1 (nI np)) ko_X6_add km_X8_57 ki_X6_add ks_X6_add kn_X6 (by decide +kernel) rfl (hs_113.2.1 3 (by omega)).1 rfl hl.1 rfl (by simp [Value.category]) dX8_begin_85 (by rw [hR]; exact ⟨rfl, rfl, Nat.le_of_ble_eq_true rfl, Nat.le_of_ble_eq_true rfl, by simp, by simp; try omega⟩) (fun r_126 ah_127 H_128 L_129 st_130 hp hw hst => ?_)
      obtain ⟨rfl, a2_125, c2_125, g2_125, ha_125, hl_125, ho_125, hn_125, eah_127⟩ := hp
      obtain ⟨RA_125, f_125, hs_125, hr_125, hd_125, hx_125⟩ := shA_add hs_113 3 (by omega) ha_125 hl_125 ho_125 hn_125 (by show nc ≤ 20000; omega) eah_127
      have hs_125 : shA dT ah_127 sh RO RA_125 (va_up (va_up (va_up (va_up (va_up cap 1 (cap 1 + rwG ns (cap 1) / 2)) 6 (cap 6 + rwG no (cap 6) / 2)) 0 (cap 0 + rwG ns (cap 0) / 2)) 2 (cap 2 + rwG ns (cap 2) / 2)) 3 (cap 3 + rwG nc (cap 3) / 2)) (v7 (ns + 1) (ns + 1) (ns + 1) (nc + 1) np np (no + 1)) f_125 rc := shA_v hs_125 (by intro k9 hk9; rcases (show k9 = 0 ∨ k9 = 1 ∨ k9 = 2 ∨ k9 = 3 ∨ k9 = 4 ∨ k9 = 5 ∨ k9 = 6 by omega) with rfl | rfl | rfl | rfl | rfl | rfl | rfl <;> rfl)
      have hb_1250 : ns + 1 ≤ cap 0 + rwG ns (cap 0) / 2 ∧ 32 ≤ cap 0 + rwG ns (cap 0) / 2 ∧ cap 0 + rwG ns (cap 0) / 2 ≤ 40000 := (hs_125.2.1 0 (by omega)).2.2
      have hb_1251 : ns + 1 ≤ cap 1 + rwG ns (cap 1) / 2 ∧ 32 ≤ cap 1 + rwG ns (cap 1) / 2 ∧ cap 1 + rwG ns (cap 1) / 2 ≤ 40000 := (hs_125.2.1 1 (by omega)).2.2
      have hb_1252 : ns + 1 ≤ cap 2 + rwG ns (cap 2) / 2 ∧ 32 ≤ cap 2 + rwG ns (cap 2) / 2 ∧ cap 2 + rwG ns (cap 2) / 2 ≤ 40000 := (hs_125.2.1 2 (by omega)).2.2
      have hb_1253 : nc + 1 ≤ cap 3 + rwG nc (cap 3) / 2 ∧ 32 ≤ cap 3 + rwG nc (cap 3) / 2 ∧ cap 3 + rwG nc (cap 3) / 2 ≤ 40000 := (hs_125.2.1 3 (by omega)).2.2
      have hb_1254 : np ≤ cap 4 ∧ 32 ≤ cap 4 ∧ cap 4 ≤ 40000 := (hs_125.2.1 4 (by omega)).2.2
      have hb_1255 : np ≤ cap 5 ∧ 32 ≤ cap 5 ∧ cap 5 ≤ 40000 := (hs_125.2.1 5 (by omega)).2.2
      have hb_1256 : no + 1 ≤ cap 6 + rwG no (cap 6) / 2 ∧ 32 ≤ cap 6 + rwG no (cap 6) / 2 ∧ cap 6 + rwG no (cap 6) / 2 ≤ 40000 := (hs_125.2.1 6 (by omega)).2.2
      have hst : st_130 = [] := hst
      subst hst
      refine lv_aload_n hx hb dX8_begin_88 rfl (lv_at hl 0 rfl) ?_
      refine h_get (ci := 8) (v := .ref (RO 6)) (C := RX8) (T := TX8) (N := 8) hx hb hts kl_X8 hown hK hw hs_125.1 rfl 6 (by decide) (hts _ kf_X8_33) rfl rfl dX8_begin_89 ?_
      refine h_callV (n := 0) (ci := 6) (b := (RO 6)) (As := []) (rest := []) ⟨hx, hb, hml, hown, hts⟩ hK hw (c_X6_size l D dT ah_127 H_128.size (RO 6) (RA_125 6) (cap 6 + rwG no (cap 6) / 2) (no + 1) (f_125 6) (by omega) (by omega) (hs_125.2.1 6 (by omega)).1 (hs_125.2.1 6 (by omega)).2.1) ko_X6_size km_X8_43 ki_X6_size ks_X6_size kn_X6 (by decide +kernel) rfl (hs_125.2.1 6 (by omega)).1 rfl hl.1 rfl (by simp [Value.category]) dX8_begin_92 (by rw [hR]; exact ⟨rfl, rfl, Nat.le_of_ble_eq_true rfl, Nat.le_of_ble_eq_true rfl, (by simp; try omega), (by simp; try omega)⟩) (fun r_131 ah_132 H_133 L_134 st_135 hp hw hst => ?_)
      obtain ⟨rfl, rfl⟩ := hp
      have hst : st_135 = [.int (nI (no + 1))] := hst
      subst hst
      rw [hQ]
      exact h_iret hx hb hr hlk hsz hw (by simp) (by simp; try omega) dX8_begin_95 ⟨rfl, _, _, _, _, hs_125, (shR_t (shR_t (shR_t (shR_t hr_85 hr_96) hr_102) hr_113) hr_125), (shD_t (shD_t (shD_t (shD_t hd_85 hd_96 (by intro k9 hk9; rcases (show k9 = 0 ∨ k9 = 1 ∨ k9 = 2 ∨ k9 = 3 ∨ k9 = 4 ∨ k9 = 5 ∨ k9 = 6 by omega) with rfl | rfl | rfl | rfl | rfl | rfl | rfl <;> simp [v7])) hd_102 (by intro k9 hk9; rcases (show k9 = 0 ∨ k9 = 1 ∨ k9 = 2 ∨ k9 = 3 ∨ k9 = 4 ∨ k9 = 5 ∨ k9 = 6 by omega) with rfl | rfl | rfl | rfl | rfl | rfl | rfl <;> simp [v7])) hd_113 (by intro k9 hk9; rcases (show k9 = 0 ∨ k9 = 1 ∨ k9 = 2 ∨ k9 = 3 ∨ k9 = 4 ∨ k9 = 5 ∨ k9 = 6 by omega) with rfl | rfl | rfl | rfl | rfl | rfl | rfl <;> simp [v7])) hd_125 (by intro k9 hk9; rcases (show k9 = 0 ∨ k9 = 1 ∨ k9 = 2 ∨ k9 = 3 ∨ k9 = 4 ∨ k9 = 5 ∨ k9 = 6 by omega) with rfl | rfl | rfl | rfl | rfl | rfl | rfl <;> simp [v7])), ((hd_125 0 _ (by omega) (by simp [v7])).trans ((hd_113 0 _ (by omega) (by simp [v7])).trans hx_102)), ((hd_125 1 _ (by omega) (by simp [v7])).trans ((hd_113 1 _ (by omega) (by simp [v7])).trans ((hd_102 1 _ (by omega) (by simp [v7])).trans ((hd_96 1 _ (by omega) (by simp [v7])).trans hx_85)))).trans (Eq.symm (by unfold shOuter; exact (if_neg c_6))), ((hd_125 2 _ (by omega) (by simp [v7])).trans hx_113), ((hd_125 6 _ (by omega) (by simp [v7])).trans ((hd_113 6 _ (by omega) (by simp [v7])).trans ((hd_102 6 _ (by omega) (by simp [v7])).trans hx_96))), Or.inl ⟨Or.inl c_119, rfl, hx_125⟩⟩
    · skip
      refine lv_iload_n hx hb dX8_begin_69 rfl (lv_at hl 1 rfl) ?_
      refine lv_iconst (v := 2) hx hb dX8_begin_70 (by decide) ?_
      refine lv_icmp_ne (tgt := 88) hx hb dX8_begin_71 (by decide) (fun c_136 => ?_) (fun c_136 => ?_)
      · skip
        refine lv_aload_n hx hb dX8_begin_88 rfl (lv_at hl 0 rfl) ?_
        refine h_get (ci := 8) (v := .ref (RO 6)) (C := RX8) (T := TX8) (N := 8) hx hb hts kl_X8 hown hK hw hs_113.1 rfl 6 (by decide) (hts _ kf_X8_33) rfl rfl dX8_begin_89 ?_
        refine h_callV (n := 0) (ci := 6) (b := (RO 6)) (As := []) (rest := []) ⟨hx, hb, hml, hown, hts⟩ hK hw (c_X6_size l D dT ah_115 H_116.size (RO 6) (RA_113 6) (cap 6 + rwG no (cap 6) / 2) (no + 1) (f_113 6) (by omega) (by omega) (hs_113.2.1 6 (by omega)).1 (hs_113.2.1 6 (by omega)).2.1) ko_X6_size km_X8_43 ki_X6_size ks_X6_size kn_X6 (by decide +kernel) rfl (hs_113.2.1 6 (by omega)).1 rfl hl.1 rfl (by simp [Value.category]) dX8_begin_92 (by rw [hR]; exact ⟨rfl, rfl, Nat.le_of_ble_eq_true rfl, Nat.le_of_ble_eq_true rfl, (by simp; try omega), (by simp; try omega)⟩) (fun r_137 ah_138 H_139 L_140 st_141 hp hw hst => ?_)
        obtain ⟨rfl, rfl⟩ := hp
        have hst : st_141 = [.int (nI (no + 1))] := hst
        subst hst
        rw [hQ]
        exact h_iret hx hb hr hlk hsz hw (by simp) (by simp; try omega) dX8_begin_95 ⟨rfl, _, _, _, _, hs_113, (shR_t (shR_t (shR_t hr_85 hr_96) hr_102) hr_113), (shD_t (shD_t (shD_t hd_85 hd_96 (by intro k9 hk9; rcases (show k9 = 0 ∨ k9 = 1 ∨ k9 = 2 ∨ k9 = 3 ∨ k9 = 4 ∨ k9 = 5 ∨ k9 = 6 by omega) with rfl | rfl | rfl | rfl | rfl | rfl | rfl <;> simp [v7])) hd_102 (by intro k9 hk9; rcases (show k9 = 0 ∨ k9 = 1 ∨ k9 = 2 ∨ k9 = 3 ∨ k9 = 4 ∨ k9 = 5 ∨ k9 = 6 by omega) with rfl | rfl | rfl | rfl | rfl | rfl | rfl <;> simp [v7])) hd_113 (by intro k9 hk9; rcases (show k9 = 0 ∨ k9 = 1 ∨ k9 = 2 ∨ k9 = 3 ∨ k9 = 4 ∨ k9 = 5 ∨ k9 = 6 by omega) with rfl | rfl | rfl | rfl | rfl | rfl | rfl <;> simp [v7])), ((hd_113 0 _ (by omega) (by simp [v7])).trans hx_102), ((hd_113 1 _ (by omega) (by simp [v7])).trans ((hd_102 1 _ (by omega) (by simp [v7])).trans ((hd_96 1 _ (by omega) (by simp [v7])).trans hx_85))).trans (Eq.symm (by unfold shOuter; exact (if_neg c_6))), hx_113, ((hd_113 6 _ (by omega) (by simp [v7])).trans ((hd_102 6 _ (by omega) (by simp [v7])).trans hx_96)), Or.inr ⟨(by rintro (h9 | h9); exact c_119 h9; exact c_136 h9), rfl⟩⟩
      · skip
        refine lv_aload_n hx hb dX8_begin_74 rfl (lv_at hl 0 rfl) ?_
        refine h_get (ci := 8) (v := .ref (RO 3)) (C := RX8) (T := TX8) (N := 8) hx hb hts kl_X8 hown hK hw hs_113.1 rfl 3 (by decide) (hts _ kf_X8_24) rfl rfl dX8_begin_75 ?_
        refine lv_aload_n hx hb dX8_begin_78 rfl (lv_at hl 0 rfl) ?_
        refine h_get (ci := 8) (v := .ref (RO 4)) (C := RX8) (T := TX8) (N := 8) hx hb hts kl_X8 hown hK hw hs_113.1 rfl 4 (by decide) (hts _ kf_X8_27) rfl rfl dX8_begin_79 ?_
        refine h_callV (n := 0) (ci := 6) (b := (RO 4)) (As := []) (rest := [.ref (RO 3)]) ⟨hx, hb, hml, hown, hts⟩ hK hw (c_X6_size l D dT ah_115 H_116.size (RO 4) (RA_113 4) (cap 4) np (f_113 4) (by omega) (by omega) (hs_113.2.1 4 (by omega)).1 (hs_113.2.1 4 (by omega)).2.1) ko_X6_size km_X8_43 ki_X6_size ks_X6_size kn_X6 (by decide +kernel) rfl (hs_113.2.1 4 (by omega)).1 rfl hl.1 rfl (by simp [Value.category]) dX8_begin_82 (by rw [hR]; exact ⟨rfl, rfl, Nat.le_of_ble_eq_true rfl, Nat.le_of_ble_eq_true rfl, (by simp; try omega), (by simp; try omega)⟩) (fun r_142 ah_143 H_144 L_145 st_146 hp hw hst => ?_)
        obtain ⟨rfl, rfl⟩ := hp
        have hst : st_146 = [.int (nI np), .ref (RO 3)] := hst
        subst hst
        refine h_callV (n := 1) (ci := 6) (b := (RO 3)) (As := [.int (nI np)]) (rest := []) ⟨hx, hb, hml, hown, hts⟩ hK hw (c_X6_add l D dT ah_115 H_144.size (RO 3) (RA_113 3) (cap 3) nc (f_113 3) (by omega) (by omega) (by omega) (hs_113.2.1 3 (by omega)).1 (hs_113.2.1 3 (by omega)).2.1 (nI np)) ko_X6_add km_X8_57 ki_X6_add ks_X6_add kn_X6 (by decide +kernel) rfl (hs_113.2.1 3 (by omega)).1 rfl hl.1 rfl (by simp [Value.category]) dX8_begin_85 (by rw [hR]; exact ⟨rfl, rfl, Nat.le_of_ble_eq_true rfl, Nat.le_of_ble_eq_true rfl, by simp, by simp; try omega⟩) (fun r_148 ah_149 H_150 L_151 st_152 hp hw hst => ?_)
        obtain ⟨rfl, a2_147, c2_147, g2_147, ha_147, hl_147, ho_147, hn_147, eah_149⟩ := hp
        obtain ⟨RA_147, f_147, hs_147, hr_147, hd_147, hx_147⟩ := shA_add hs_113 3 (by omega) ha_147 hl_147 ho_147 hn_147 (by show nc ≤ 20000; omega) eah_149
        have hs_147 : shA dT ah_149 sh RO RA_147 (va_up (va_up (va_up (va_up (va_up cap 1 (cap 1 + rwG ns (cap 1) / 2)) 6 (cap 6 + rwG no (cap 6) / 2)) 0 (cap 0 + rwG ns (cap 0) / 2)) 2 (cap 2 + rwG ns (cap 2) / 2)) 3 (cap 3 + rwG nc (cap 3) / 2)) (v7 (ns + 1) (ns + 1) (ns + 1) (nc + 1) np np (no + 1)) f_147 rc := shA_v hs_147 (by intro k9 hk9; rcases (show k9 = 0 ∨ k9 = 1 ∨ k9 = 2 ∨ k9 = 3 ∨ k9 = 4 ∨ k9 = 5 ∨ k9 = 6 by omega) with rfl | rfl | rfl | rfl | rfl | rfl | rfl <;> rfl)
        have hb_1470 : ns + 1 ≤ cap 0 + rwG ns (cap 0) / 2 ∧ 32 ≤ cap 0 + rwG ns (cap 0) / 2 ∧ cap 0 + rwG ns (cap 0) / 2 ≤ 40000 := (hs_147.2.1 0 (by omega)).2.2
        have hb_1471 : ns + 1 ≤ cap 1 + rwG ns (cap 1) / 2 ∧ 32 ≤ cap 1 + rwG ns (cap 1) / 2 ∧ cap 1 + rwG ns (cap 1) / 2 ≤ 40000 := (hs_147.2.1 1 (by omega)).2.2
        have hb_1472 : ns + 1 ≤ cap 2 + rwG ns (cap 2) / 2 ∧ 32 ≤ cap 2 + rwG ns (cap 2) / 2 ∧ cap 2 + rwG ns (cap 2) / 2 ≤ 40000 := (hs_147.2.1 2 (by omega)).2.2
        have hb_1473 : nc + 1 ≤ cap 3 + rwG nc (cap 3) / 2 ∧ 32 ≤ cap 3 + rwG nc (cap 3) / 2 ∧ cap 3 + rwG nc (cap 3) / 2 ≤ 40000 := (hs_147.2.1 3 (by omega)).2.2
        have hb_1474 : np ≤ cap 4 ∧ 32 ≤ cap 4 ∧ cap 4 ≤ 40000 := (hs_147.2.1 4 (by omega)).2.2
        have hb_1475 : np ≤ cap 5 ∧ 32 ≤ cap 5 ∧ cap 5 ≤ 40000 := (hs_147.2.1 5 (by omega)).2.2
        have hb_1476 : no + 1 ≤ cap 6 + rwG no (cap 6) / 2 ∧ 32 ≤ cap 6 + rwG no (cap 6) / 2 ∧ cap 6 + rwG no (cap 6) / 2 ≤ 40000 := (hs_147.2.1 6 (by omega)).2.2
        have hst : st_152 = [] := hst
        subst hst
        refine lv_aload_n hx hb dX8_begin_88 rfl (lv_at hl 0 rfl) ?_
        refine h_get (ci := 8) (v := .ref (RO 6)) (C := RX8) (T := TX8) (N := 8) hx hb hts kl_X8 hown hK hw hs_147.1 rfl 6 (by decide) (hts _ kf_X8_33) rfl rfl dX8_begin_89 ?_
        refine h_callV (n := 0) (ci := 6) (b := (RO 6)) (As := []) (rest := []) ⟨hx, hb, hml, hown, hts⟩ hK hw (c_X6_size l D dT ah_149 H_150.size (RO 6) (RA_147 6) (cap 6 + rwG no (cap 6) / 2) (no + 1) (f_147 6) (by omega) (by omega) (hs_147.2.1 6 (by omega)).1 (hs_147.2.1 6 (by omega)).2.1) ko_X6_size km_X8_43 ki_X6_size ks_X6_size kn_X6 (by decide +kernel) rfl (hs_147.2.1 6 (by omega)).1 rfl hl.1 rfl (by simp [Value.category]) dX8_begin_92 (by rw [hR]; exact ⟨rfl, rfl, Nat.le_of_ble_eq_true rfl, Nat.le_of_ble_eq_true rfl, (by simp; try omega), (by simp; try omega)⟩) (fun r_153 ah_154 H_155 L_156 st_157 hp hw hst => ?_)
        obtain ⟨rfl, rfl⟩ := hp
        have hst : st_157 = [.int (nI (no + 1))] := hst
        subst hst
        rw [hQ]
        exact h_iret hx hb hr hlk hsz hw (by simp) (by simp; try omega) dX8_begin_95 ⟨rfl, _, _, _, _, hs_147, (shR_t (shR_t (shR_t (shR_t hr_85 hr_96) hr_102) hr_113) hr_147), (shD_t (shD_t (shD_t (shD_t hd_85 hd_96 (by intro k9 hk9; rcases (show k9 = 0 ∨ k9 = 1 ∨ k9 = 2 ∨ k9 = 3 ∨ k9 = 4 ∨ k9 = 5 ∨ k9 = 6 by omega) with rfl | rfl | rfl | rfl | rfl | rfl | rfl <;> simp [v7])) hd_102 (by intro k9 hk9; rcases (show k9 = 0 ∨ k9 = 1 ∨ k9 = 2 ∨ k9 = 3 ∨ k9 = 4 ∨ k9 = 5 ∨ k9 = 6 by omega) with rfl | rfl | rfl | rfl | rfl | rfl | rfl <;> simp [v7])) hd_113 (by intro k9 hk9; rcases (show k9 = 0 ∨ k9 = 1 ∨ k9 = 2 ∨ k9 = 3 ∨ k9 = 4 ∨ k9 = 5 ∨ k9 = 6 by omega) with rfl | rfl | rfl | rfl | rfl | rfl | rfl <;> simp [v7])) hd_147 (by intro k9 hk9; rcases (show k9 = 0 ∨ k9 = 1 ∨ k9 = 2 ∨ k9 = 3 ∨ k9 = 4 ∨ k9 = 5 ∨ k9 = 6 by omega) with rfl | rfl | rfl | rfl | rfl | rfl | rfl <;> simp [v7])), ((hd_147 0 _ (by omega) (by simp [v7])).trans ((hd_113 0 _ (by omega) (by simp [v7])).trans hx_102)), ((hd_147 1 _ (by omega) (by simp [v7])).trans ((hd_113 1 _ (by omega) (by simp [v7])).trans ((hd_102 1 _ (by omega) (by simp [v7])).trans ((hd_96 1 _ (by omega) (by simp [v7])).trans hx_85)))).trans (Eq.symm (by unfold shOuter; exact (if_neg c_6))), ((hd_147 2 _ (by omega) (by simp [v7])).trans hx_113), ((hd_147 6 _ (by omega) (by simp [v7])).trans ((hd_113 6 _ (by omega) (by simp [v7])).trans ((hd_102 6 _ (by omega) (by simp [v7])).trans hx_96))), Or.inl ⟨Or.inr c_136, rfl, hx_147⟩⟩

set_option maxHeartbeats 4000000 in
set_option maxRecDepth 100000 in
theorem c_X8_init (l : Launch) (D : va_G) (dT : Nat → ClassId) (ah : hA) (sz : Nat) (sh : Nat) (hsh : ah sh = some (.inr (8, [.null, .null, .null, .null, .null, .null, .null, .int 0]))) : hMet l yX8_init cX8_init 1 none ({ frames := 2, cells := 14, slots := 238, locals := 40 }) D dT [.ref sh] ah sz (fun r ah2 => r = none ∧ ∃ RO RA : Nat → Nat, shA dT ah2 sh RO RA (fun _ => 32) (v7 0 0 0 0 0 0 0) (fun _ _ => 0) 0 ∧ ∀ a e9, ah a = some e9 → a ≠ sh → ah2 a = some e9) 14 238 := by
  refine h_met (by decide) (Nat.le_of_ble_eq_true rfl) ?_
  intro p e s m below meth c ls R Q args hav hR hQ hB hl hsz hw
  obtain ⟨hx, hb, hml, hr, hts, hown, hlk, hin, hK⟩ := hB
  have hown : s.vm.findClass RX8 = some m.cls := hown
  have hl : lv_has ls 1 [(0, .ref sh)] := hl
  refine lv_aload_n hx hb dX8_init_0 rfl (lv_at hl 0 rfl) ?_
  refine W.objInit hx hb hown (hts _ km_X8_3) (hts _ ki_obj) (hts _ ko_obj) rfl (by rw [hml]; exact hl.1) rfl dX8_init_1 (by rw [hR]; exact Nat.le_of_ble_eq_true rfl) (by rw [hR]; exact Nat.le_of_ble_eq_true rfl) ?_
  refine W.eq (g2 := F0 m 4 ls []) rfl ?_
  refine lv_aload_n hx hb dX8_init_4 rfl (lv_at hl 0 rfl) ?_
  refine h_new (ci := 6) (fs := [.null, .int 0]) (C := RX6) (T := TX6) (N := 2) hx hb hts kl_X6 tyX6 tyX6_ok hown (hts _ kc_X8_9) (hts _ ka_X6) (hts _ kn_X6) hK hw rfl (hdef_X6) (by rw [hR]; simp; try omega) (by rw [hR]; simp; try omega) dX8_init_5 (fun q_1 H_2 hqq_1 hw => ?_)
  obtain ⟨ah_3, eah_3⟩ : ∃ z9 : hA, z9 = hup ah q_1 (.inr (6, [.null, .int 0])) := ⟨_, rfl⟩
  have hw : hW D ah s.heap ah_3 H_2 [] := by rw [eah_3]; exact hw
  have hne_5 : sh ≠ q_1 := h_fr hsh hqq_1
  have hc_4 := (show ah_3 sh = _ from (by rw [eah_3]; exact hup_n (hne_5))).trans hsh
  have hc_q_1 : ah_3 q_1 = some (.inr (6, [.null, .int 0])) := by rw [eah_3]; exact hup_s
  refine lv_dup hx hb dX8_init_8 rfl ?_
  refine h_callIN (n := 0) (b := q_1) (As := []) (rest := [.ref q_1, .ref sh]) ⟨hx, hb, hml, hown, hts⟩ hK hw (c_X6_init l D dT ah_3 H_2.size q_1 hc_q_1) ko_X6_init (List.mem_of_getElem? (i := 36) rfl) ki_X6_init kn_X6 rfl (by decide +kernel) rfl hl.1 rfl (by simp [Value.category]) dX8_init_9 (by rw [hR]; exact ⟨rfl, rfl, Nat.le_of_ble_eq_true rfl, Nat.le_of_ble_eq_true rfl, by simp, by simp⟩) (fun r_7 ah_8 H_9 L_10 st_11 hp hw hst => ?_)
  obtain ⟨rfl, qa_6, hqqa_6, eah_8⟩ := hp
  obtain ⟨am_12, eam_12⟩ : ∃ z9 : hA, z9 = hup ah_3 qa_6 (.inl (dT 0, 32, .inl (fun _ => 0))) := ⟨_, rfl⟩
  rw [← eam_12] at eah_8
  have hne_14 : sh ≠ qa_6 := h_fr hc_4 hqqa_6
  have hc_13 := (show am_12 sh = _ from (by rw [eam_12]; exact hup_n (hne_14))).trans hc_4
  have hne_16 : q_1 ≠ qa_6 := h_fr hc_q_1 hqqa_6
  have hc_15 := (show am_12 q_1 = _ from (by rw [eam_12]; exact hup_n (hne_16))).trans hc_q_1
  have hc_qa_6 : am_12 qa_6 = some (.inl (dT 0, 32, .inl (fun _ => 0))) := by rw [eam_12]; exact hup_s
  have hc_17 := (show ah_8 sh = _ from (by rw [eah_8]; exact hup_n (hne_5))).trans hc_13
  have hc_18 : ah_8 q_1 = some (.inr (6, [.ref qa_6, .int (nI 0)])) := by rw [eah_8]; exact hup_s
  have hc_19 := (show ah_8 qa_6 = _ from (by rw [eah_8]; exact hup_n (hne_16.symm))).trans hc_qa_6
  have hst : st_11 = [.ref q_1, .ref sh] := hst
  subst hst
  refine h_putF (ci := 8) (v := .ref q_1) (C := RX8) (T := TX8) (N := 8) hx hb hts kl_X8 tyX8 tyX8_ok nmX8 hown hK hw hc_17 rfl 0 (by decide) (hts _ kf_X8_12) rfl rfl hin rfl (tyX8_ok 0 (by decide)) rfl rfl (Nat.le_of_ble_eq_true rfl) dX8_init_12 (fun H_20 L_21 hw => ?_)
  obtain ⟨ah_22, eah_22⟩ : ∃ z9 : hA, z9 = hup ah_8 sh (.inr (8, [.ref q_1, .null, .null, .null, .null, .null, .null, .int 0])) := ⟨_, rfl⟩
  have hw : hW D ah s.heap ah_22 H_20 L_21 := by rw [eah_22]; exact hw
  have hc_23 : ah_22 sh = some (.inr (8, [.ref q_1, .null, .null, .null, .null, .null, .null, .int 0])) := by rw [eah_22]; exact hup_s
  have hc_24 := (show ah_22 q_1 = _ from (by rw [eah_22]; exact hup_n (hne_5.symm))).trans hc_18
  have hc_25 := (show ah_22 qa_6 = _ from (by rw [eah_22]; exact hup_n (hne_14.symm))).trans hc_19
  refine lv_aload_n hx hb dX8_init_15 rfl (lv_at hl 0 rfl) ?_
  refine h_new (ci := 6) (fs := [.null, .int 0]) (C := RX6) (T := TX6) (N := 2) hx hb hts kl_X6 tyX6 tyX6_ok hown (hts _ kc_X8_9) (hts _ ka_X6) (hts _ kn_X6) hK hw rfl (hdef_X6) (by rw [hR]; simp; try omega) (by rw [hR]; simp; try omega) dX8_init_16 (fun q_26 H_27 hqq_26 hw => ?_)
  obtain ⟨ah_28, eah_28⟩ : ∃ z9 : hA, z9 = hup ah_22 q_26 (.inr (6, [.null, .int 0])) := ⟨_, rfl⟩
  have hw : hW D ah s.heap ah_28 H_27 L_21 := by rw [eah_28]; exact hw
  have hne_30 : sh ≠ q_26 := h_fr hc_23 hqq_26
  have hc_29 := (show ah_28 sh = _ from (by rw [eah_28]; exact hup_n (hne_30))).trans hc_23
  have hne_32 : q_1 ≠ q_26 := h_fr hc_24 hqq_26
  have hc_31 := (show ah_28 q_1 = _ from (by rw [eah_28]; exact hup_n (hne_32))).trans hc_24
  have hne_34 : qa_6 ≠ q_26 := h_fr hc_25 hqq_26
  have hc_33 := (show ah_28 qa_6 = _ from (by rw [eah_28]; exact hup_n (hne_34))).trans hc_25
  have hc_q_26 : ah_28 q_26 = some (.inr (6, [.null, .int 0])) := by rw [eah_28]; exact hup_s
  refine lv_dup hx hb dX8_init_19 rfl ?_
  refine h_callIN (n := 0) (b := q_26) (As := []) (rest := [.ref q_26, .ref sh]) ⟨hx, hb, hml, hown, hts⟩ hK hw (c_X6_init l D dT ah_28 H_27.size q_26 hc_q_26) ko_X6_init (List.mem_of_getElem? (i := 36) rfl) ki_X6_init kn_X6 rfl (by decide +kernel) rfl hl.1 rfl (by simp [Value.category]) dX8_init_20 (by rw [hR]; exact ⟨rfl, rfl, Nat.le_of_ble_eq_true rfl, Nat.le_of_ble_eq_true rfl, by simp, by simp⟩) (fun r_36 ah_37 H_38 L_39 st_40 hp hw hst => ?_)
  obtain ⟨rfl, qa_35, hqqa_35, eah_37⟩ := hp
  obtain ⟨am_41, eam_41⟩ : ∃ z9 : hA, z9 = hup ah_28 qa_35 (.inl (dT 0, 32, .inl (fun _ => 0))) := ⟨_, rfl⟩
  rw [← eam_41] at eah_37
  have hne_43 : sh ≠ qa_35 := h_fr hc_29 hqqa_35
  have hc_42 := (show am_41 sh = _ from (by rw [eam_41]; exact hup_n (hne_43))).trans hc_29
  have hne_45 : q_1 ≠ qa_35 := h_fr hc_31 hqqa_35
  have hc_44 := (show am_41 q_1 = _ from (by rw [eam_41]; exact hup_n (hne_45))).trans hc_31
  have hne_47 : qa_6 ≠ qa_35 := h_fr hc_33 hqqa_35
  have hc_46 := (show am_41 qa_6 = _ from (by rw [eam_41]; exact hup_n (hne_47))).trans hc_33
  have hne_49 : q_26 ≠ qa_35 := h_fr hc_q_26 hqqa_35
  have hc_48 := (show am_41 q_26 = _ from (by rw [eam_41]; exact hup_n (hne_49))).trans hc_q_26
  have hc_qa_35 : am_41 qa_35 = some (.inl (dT 0, 32, .inl (fun _ => 0))) := by rw [eam_41]; exact hup_s
  have hc_50 := (show ah_37 sh = _ from (by rw [eah_37]; exact hup_n (hne_30))).trans hc_42
  have hc_51 := (show ah_37 q_1 = _ from (by rw [eah_37]; exact hup_n (hne_32))).trans hc_44
  have hc_52 := (show ah_37 qa_6 = _ from (by rw [eah_37]; exact hup_n (hne_34))).trans hc_46
  have hc_53 : ah_37 q_26 = some (.inr (6, [.ref qa_35, .int (nI 0)])) := by rw [eah_37]; exact hup_s
  have hc_54 := (show ah_37 qa_35 = _ from (by rw [eah_37]; exact hup_n (hne_49.symm))).trans hc_qa_35
  have hst : st_40 = [.ref q_26, .ref sh] := hst
  subst hst
  refine h_putF (ci := 8) (v := .ref q_26) (C := RX8) (T := TX8) (N := 8) hx hb hts kl_X8 tyX8 tyX8_ok nmX8 hown hK hw hc_50 rfl 1 (by decide) (hts _ kf_X8_18) rfl rfl hin rfl (tyX8_ok 1 (by decide)) rfl rfl (Nat.le_of_ble_eq_true rfl) dX8_init_23 (fun H_55 L_56 hw => ?_)
  obtain ⟨ah_57, eah_57⟩ : ∃ z9 : hA, z9 = hup ah_37 sh (.inr (8, [.ref q_1, .ref q_26, .null, .null, .null, .null, .null, .int 0])) := ⟨_, rfl⟩
  have hw : hW D ah s.heap ah_57 H_55 L_56 := by rw [eah_57]; exact hw
  have hc_58 : ah_57 sh = some (.inr (8, [.ref q_1, .ref q_26, .null, .null, .null, .null, .null, .int 0])) := by rw [eah_57]; exact hup_s
  have hc_59 := (show ah_57 q_1 = _ from (by rw [eah_57]; exact hup_n (hne_5.symm))).trans hc_51
  have hc_60 := (show ah_57 qa_6 = _ from (by rw [eah_57]; exact hup_n (hne_14.symm))).trans hc_52
  have hc_61 := (show ah_57 q_26 = _ from (by rw [eah_57]; exact hup_n (hne_30.symm))).trans hc_53
  have hc_62 := (show ah_57 qa_35 = _ from (by rw [eah_57]; exact hup_n (hne_43.symm))).trans hc_54
  refine lv_aload_n hx hb dX8_init_26 rfl (lv_at hl 0 rfl) ?_
  refine h_new (ci := 6) (fs := [.null, .int 0]) (C := RX6) (T := TX6) (N := 2) hx hb hts kl_X6 tyX6 tyX6_ok hown (hts _ kc_X8_9) (hts _ ka_X6) (hts _ kn_X6) hK hw rfl (hdef_X6) (by rw [hR]; simp; try omega) (by rw [hR]; simp; try omega) dX8_init_27 (fun q_63 H_64 hqq_63 hw => ?_)
  obtain ⟨ah_65, eah_65⟩ : ∃ z9 : hA, z9 = hup ah_57 q_63 (.inr (6, [.null, .int 0])) := ⟨_, rfl⟩
  have hw : hW D ah s.heap ah_65 H_64 L_56 := by rw [eah_65]; exact hw
  have hne_67 : sh ≠ q_63 := h_fr hc_58 hqq_63
  have hc_66 := (show ah_65 sh = _ from (by rw [eah_65]; exact hup_n (hne_67))).trans hc_58
  have hne_69 : q_1 ≠ q_63 := h_fr hc_59 hqq_63
  have hc_68 := (show ah_65 q_1 = _ from (by rw [eah_65]; exact hup_n (hne_69))).trans hc_59
  have hne_71 : qa_6 ≠ q_63 := h_fr hc_60 hqq_63
  have hc_70 := (show ah_65 qa_6 = _ from (by rw [eah_65]; exact hup_n (hne_71))).trans hc_60
  have hne_73 : q_26 ≠ q_63 := h_fr hc_61 hqq_63
  have hc_72 := (show ah_65 q_26 = _ from (by rw [eah_65]; exact hup_n (hne_73))).trans hc_61
  have hne_75 : qa_35 ≠ q_63 := h_fr hc_62 hqq_63
  have hc_74 := (show ah_65 qa_35 = _ from (by rw [eah_65]; exact hup_n (hne_75))).trans hc_62
  have hc_q_63 : ah_65 q_63 = some (.inr (6, [.null, .int 0])) := by rw [eah_65]; exact hup_s
  refine lv_dup hx hb dX8_init_30 rfl ?_
  refine h_callIN (n := 0) (b := q_63) (As := []) (rest := [.ref q_63, .ref sh]) ⟨hx, hb, hml, hown, hts⟩ hK hw (c_X6_init l D dT ah_65 H_64.size q_63 hc_q_63) ko_X6_init (List.mem_of_getElem? (i := 36) rfl) ki_X6_init kn_X6 rfl (by decide +kernel) rfl hl.1 rfl (by simp [Value.category]) dX8_init_31 (by rw [hR]; exact ⟨rfl, rfl, Nat.le_of_ble_eq_true rfl, Nat.le_of_ble_eq_true rfl, by simp, by simp⟩) (fun r_77 ah_78 H_79 L_80 st_81 hp hw hst => ?_)
  obtain ⟨rfl, qa_76, hqqa_76, eah_78⟩ := hp
  obtain ⟨am_82, eam_82⟩ : ∃ z9 : hA, z9 = hup ah_65 qa_76 (.inl (dT 0, 32, .inl (fun _ => 0))) := ⟨_, rfl⟩
  rw [← eam_82] at eah_78
  have hne_84 : sh ≠ qa_76 := h_fr hc_66 hqqa_76
  have hc_83 := (show am_82 sh = _ from (by rw [eam_82]; exact hup_n (hne_84))).trans hc_66
  have hne_86 : q_1 ≠ qa_76 := h_fr hc_68 hqqa_76
  have hc_85 := (show am_82 q_1 = _ from (by rw [eam_82]; exact hup_n (hne_86))).trans hc_68
  have hne_88 : qa_6 ≠ qa_76 := h_fr hc_70 hqqa_76
  have hc_87 := (show am_82 qa_6 = _ from (by rw [eam_82]; exact hup_n (hne_88))).trans hc_70
  have hne_90 : q_26 ≠ qa_76 := h_fr hc_72 hqqa_76
  have hc_89 := (show am_82 q_26 = _ from (by rw [eam_82]; exact hup_n (hne_90))).trans hc_72
  have hne_92 : qa_35 ≠ qa_76 := h_fr hc_74 hqqa_76
  have hc_91 := (show am_82 qa_35 = _ from (by rw [eam_82]; exact hup_n (hne_92))).trans hc_74
  have hne_94 : q_63 ≠ qa_76 := h_fr hc_q_63 hqqa_76
  have hc_93 := (show am_82 q_63 = _ from (by rw [eam_82]; exact hup_n (hne_94))).trans hc_q_63
  have hc_qa_76 : am_82 qa_76 = some (.inl (dT 0, 32, .inl (fun _ => 0))) := by rw [eam_82]; exact hup_s
  have hc_95 := (show ah_78 sh = _ from (by rw [eah_78]; exact hup_n (hne_67))).trans hc_83
  have hc_96 := (show ah_78 q_1 = _ from (by rw [eah_78]; exact hup_n (hne_69))).trans hc_85
  have hc_97 := (show ah_78 qa_6 = _ from (by rw [eah_78]; exact hup_n (hne_71))).trans hc_87
  have hc_98 := (show ah_78 q_26 = _ from (by rw [eah_78]; exact hup_n (hne_73))).trans hc_89
  have hc_99 := (show ah_78 qa_35 = _ from (by rw [eah_78]; exact hup_n (hne_75))).trans hc_91
  have hc_100 : ah_78 q_63 = some (.inr (6, [.ref qa_76, .int (nI 0)])) := by rw [eah_78]; exact hup_s
  have hc_101 := (show ah_78 qa_76 = _ from (by rw [eah_78]; exact hup_n (hne_94.symm))).trans hc_qa_76
  have hst : st_81 = [.ref q_63, .ref sh] := hst
  subst hst
  refine h_putF (ci := 8) (v := .ref q_63) (C := RX8) (T := TX8) (N := 8) hx hb hts kl_X8 tyX8 tyX8_ok nmX8 hown hK hw hc_95 rfl 2 (by decide) (hts _ kf_X8_21) rfl rfl hin rfl (tyX8_ok 2 (by decide)) rfl rfl (Nat.le_of_ble_eq_true rfl) dX8_init_34 (fun H_102 L_103 hw => ?_)
  obtain ⟨ah_104, eah_104⟩ : ∃ z9 : hA, z9 = hup ah_78 sh (.inr (8, [.ref q_1, .ref q_26, .ref q_63, .null, .null, .null, .null, .int 0])) := ⟨_, rfl⟩
  have hw : hW D ah s.heap ah_104 H_102 L_103 := by rw [eah_104]; exact hw
  have hc_105 : ah_104 sh = some (.inr (8, [.ref q_1, .ref q_26, .ref q_63, .null, .null, .null, .null, .int 0])) := by rw [eah_104]; exact hup_s
  have hc_106 := (show ah_104 q_1 = _ from (by rw [eah_104]; exact hup_n (hne_5.symm))).trans hc_96
  have hc_107 := (show ah_104 qa_6 = _ from (by rw [eah_104]; exact hup_n (hne_14.symm))).trans hc_97
  have hc_108 := (show ah_104 q_26 = _ from (by rw [eah_104]; exact hup_n (hne_30.symm))).trans hc_98
  have hc_109 := (show ah_104 qa_35 = _ from (by rw [eah_104]; exact hup_n (hne_43.symm))).trans hc_99
  have hc_110 := (show ah_104 q_63 = _ from (by rw [eah_104]; exact hup_n (hne_67.symm))).trans hc_100
  have hc_111 := (show ah_104 qa_76 = _ from (by rw [eah_104]; exact hup_n (hne_84.symm))).trans hc_101
  refine lv_aload_n hx hb dX8_init_37 rfl (lv_at hl 0 rfl) ?_
  refine h_new (ci := 6) (fs := [.null, .int 0]) (C := RX6) (T := TX6) (N := 2) hx hb hts kl_X6 tyX6 tyX6_ok hown (hts _ kc_X8_9) (hts _ ka_X6) (hts _ kn_X6) hK hw rfl (hdef_X6) (by rw [hR]; simp; try omega) (by rw [hR]; simp; try omega) dX8_init_38 (fun q_112 H_113 hqq_112 hw => ?_)
  obtain ⟨ah_114, eah_114⟩ : ∃ z9 : hA, z9 = hup ah_104 q_112 (.inr (6, [.null, .int 0])) := ⟨_, rfl⟩
  have hw : hW D ah s.heap ah_114 H_113 L_103 := by rw [eah_114]; exact hw
  have hne_116 : sh ≠ q_112 := h_fr hc_105 hqq_112
  have hc_115 := (show ah_114 sh = _ from (by rw [eah_114]; exact hup_n (hne_116))).trans hc_105
  have hne_118 : q_1 ≠ q_112 := h_fr hc_106 hqq_112
  have hc_117 := (show ah_114 q_1 = _ from (by rw [eah_114]; exact hup_n (hne_118))).trans hc_106
  have hne_120 : qa_6 ≠ q_112 := h_fr hc_107 hqq_112
  have hc_119 := (show ah_114 qa_6 = _ from (by rw [eah_114]; exact hup_n (hne_120))).trans hc_107
  have hne_122 : q_26 ≠ q_112 := h_fr hc_108 hqq_112
  have hc_121 := (show ah_114 q_26 = _ from (by rw [eah_114]; exact hup_n (hne_122))).trans hc_108
  have hne_124 : qa_35 ≠ q_112 := h_fr hc_109 hqq_112
  have hc_123 := (show ah_114 qa_35 = _ from (by rw [eah_114]; exact hup_n (hne_124))).trans hc_109
  have hne_126 : q_63 ≠ q_112 := h_fr hc_110 hqq_112
  have hc_125 := (show ah_114 q_63 = _ from (by rw [eah_114]; exact hup_n (hne_126))).trans hc_110
  have hne_128 : qa_76 ≠ q_112 := h_fr hc_111 hqq_112
  have hc_127 := (show ah_114 qa_76 = _ from (by rw [eah_114]; exact hup_n (hne_128))).trans hc_111
  have hc_q_112 : ah_114 q_112 = some (.inr (6, [.null, .int 0])) := by rw [eah_114]; exact hup_s
  refine lv_dup hx hb dX8_init_41 rfl ?_
  refine h_callIN (n := 0) (b := q_112) (As := []) (rest := [.ref q_112, .ref sh]) ⟨hx, hb, hml, hown, hts⟩ hK hw (c_X6_init l D dT ah_114 H_113.size q_112 hc_q_112) ko_X6_init (List.mem_of_getElem? (i := 36) rfl) ki_X6_init kn_X6 rfl (by decide +kernel) rfl hl.1 rfl (by simp [Value.category]) dX8_init_42 (by rw [hR]; exact ⟨rfl, rfl, Nat.le_of_ble_eq_true rfl, Nat.le_of_ble_eq_true rfl, by simp, by simp⟩) (fun r_130 ah_131 H_132 L_133 st_134 hp hw hst => ?_)
  obtain ⟨rfl, qa_129, hqqa_129, eah_131⟩ := hp
  obtain ⟨am_135, eam_135⟩ : ∃ z9 : hA, z9 = hup ah_114 qa_129 (.inl (dT 0, 32, .inl (fun _ => 0))) := ⟨_, rfl⟩
  rw [← eam_135] at eah_131
  have hne_137 : sh ≠ qa_129 := h_fr hc_115 hqqa_129
  have hc_136 := (show am_135 sh = _ from (by rw [eam_135]; exact hup_n (hne_137))).trans hc_115
  have hne_139 : q_1 ≠ qa_129 := h_fr hc_117 hqqa_129
  have hc_138 := (show am_135 q_1 = _ from (by rw [eam_135]; exact hup_n (hne_139))).trans hc_117
  have hne_141 : qa_6 ≠ qa_129 := h_fr hc_119 hqqa_129
  have hc_140 := (show am_135 qa_6 = _ from (by rw [eam_135]; exact hup_n (hne_141))).trans hc_119
  have hne_143 : q_26 ≠ qa_129 := h_fr hc_121 hqqa_129
  have hc_142 := (show am_135 q_26 = _ from (by rw [eam_135]; exact hup_n (hne_143))).trans hc_121
  have hne_145 : qa_35 ≠ qa_129 := h_fr hc_123 hqqa_129
  have hc_144 := (show am_135 qa_35 = _ from (by rw [eam_135]; exact hup_n (hne_145))).trans hc_123
  have hne_147 : q_63 ≠ qa_129 := h_fr hc_125 hqqa_129
  have hc_146 := (show am_135 q_63 = _ from (by rw [eam_135]; exact hup_n (hne_147))).trans hc_125
  have hne_149 : qa_76 ≠ qa_129 := h_fr hc_127 hqqa_129
  have hc_148 := (show am_135 qa_76 = _ from (by rw [eam_135]; exact hup_n (hne_149))).trans hc_127
  have hne_151 : q_112 ≠ qa_129 := h_fr hc_q_112 hqqa_129
  have hc_150 := (show am_135 q_112 = _ from (by rw [eam_135]; exact hup_n (hne_151))).trans hc_q_112
  have hc_qa_129 : am_135 qa_129 = some (.inl (dT 0, 32, .inl (fun _ => 0))) := by rw [eam_135]; exact hup_s
  have hc_152 := (show ah_131 sh = _ from (by rw [eah_131]; exact hup_n (hne_116))).trans hc_136
  have hc_153 := (show ah_131 q_1 = _ from (by rw [eah_131]; exact hup_n (hne_118))).trans hc_138
  have hc_154 := (show ah_131 qa_6 = _ from (by rw [eah_131]; exact hup_n (hne_120))).trans hc_140
  have hc_155 := (show ah_131 q_26 = _ from (by rw [eah_131]; exact hup_n (hne_122))).trans hc_142
  have hc_156 := (show ah_131 qa_35 = _ from (by rw [eah_131]; exact hup_n (hne_124))).trans hc_144
  have hc_157 := (show ah_131 q_63 = _ from (by rw [eah_131]; exact hup_n (hne_126))).trans hc_146
  have hc_158 := (show ah_131 qa_76 = _ from (by rw [eah_131]; exact hup_n (hne_128))).trans hc_148
  have hc_159 : ah_131 q_112 = some (.inr (6, [.ref qa_129, .int (nI 0)])) := by rw [eah_131]; exact hup_s
  have hc_160 := (show ah_131 qa_129 = _ from (by rw [eah_131]; exact hup_n (hne_151.symm))).trans hc_qa_129
  have hst : st_134 = [.ref q_112, .ref sh] := hst
  subst hst
  refine h_putF (ci := 8) (v := .ref q_112) (C := RX8) (T := TX8) (N := 8) hx hb hts kl_X8 tyX8 tyX8_ok nmX8 hown hK hw hc_152 rfl 3 (by decide) (hts _ kf_X8_24) rfl rfl hin rfl (tyX8_ok 3 (by decide)) rfl rfl (Nat.le_of_ble_eq_true rfl) dX8_init_45 (fun H_161 L_162 hw => ?_)
  obtain ⟨ah_163, eah_163⟩ : ∃ z9 : hA, z9 = hup ah_131 sh (.inr (8, [.ref q_1, .ref q_26, .ref q_63, .ref q_112, .null, .null, .null, .int 0])) := ⟨_, rfl⟩
  have hw : hW D ah s.heap ah_163 H_161 L_162 := by rw [eah_163]; exact hw
  have hc_164 : ah_163 sh = some (.inr (8, [.ref q_1, .ref q_26, .ref q_63, .ref q_112, .null, .null, .null, .int 0])) := by rw [eah_163]; exact hup_s
  have hc_165 := (show ah_163 q_1 = _ from (by rw [eah_163]; exact hup_n (hne_5.symm))).trans hc_153
  have hc_166 := (show ah_163 qa_6 = _ from (by rw [eah_163]; exact hup_n (hne_14.symm))).trans hc_154
  have hc_167 := (show ah_163 q_26 = _ from (by rw [eah_163]; exact hup_n (hne_30.symm))).trans hc_155
  have hc_168 := (show ah_163 qa_35 = _ from (by rw [eah_163]; exact hup_n (hne_43.symm))).trans hc_156
  have hc_169 := (show ah_163 q_63 = _ from (by rw [eah_163]; exact hup_n (hne_67.symm))).trans hc_157
  have hc_170 := (show ah_163 qa_76 = _ from (by rw [eah_163]; exact hup_n (hne_84.symm))).trans hc_158
  have hc_171 := (show ah_163 q_112 = _ from (by rw [eah_163]; exact hup_n (hne_116.symm))).trans hc_159
  have hc_172 := (show ah_163 qa_129 = _ from (by rw [eah_163]; exact hup_n (hne_137.symm))).trans hc_160
  refine lv_aload_n hx hb dX8_init_48 rfl (lv_at hl 0 rfl) ?_
  refine h_new (ci := 6) (fs := [.null, .int 0]) (C := RX6) (T := TX6) (N := 2) hx hb hts kl_X6 tyX6 tyX6_ok hown (hts _ kc_X8_9) (hts _ ka_X6) (hts _ kn_X6) hK hw rfl (hdef_X6) (by rw [hR]; simp; try omega) (by rw [hR]; simp; try omega) dX8_init_49 (fun q_173 H_174 hqq_173 hw => ?_)
  obtain ⟨ah_175, eah_175⟩ : ∃ z9 : hA, z9 = hup ah_163 q_173 (.inr (6, [.null, .int 0])) := ⟨_, rfl⟩
  have hw : hW D ah s.heap ah_175 H_174 L_162 := by rw [eah_175]; exact hw
  have hne_177 : sh ≠ q_173 := h_fr hc_164 hqq_173
  have hc_176 := (show ah_175 sh = _ from (by rw [eah_175]; exact hup_n (hne_177))).trans hc_164
  have hne_179 : q_1 ≠ q_173 := h_fr hc_165 hqq_173
  have hc_178 := (show ah_175 q_1 = _ from (by rw [eah_175]; exact hup_n (hne_179))).trans hc_165
  have hne_181 : qa_6 ≠ q_173 := h_fr hc_166 hqq_173
  have hc_180 := (show ah_175 qa_6 = _ from (by rw [eah_175]; exact hup_n (hne_181))).trans hc_166
  have hne_183 : q_26 ≠ q_173 := h_fr hc_167 hqq_173
  have hc_182 := (show ah_175 q_26 = _ from (by rw [eah_175]; exact hup_n (hne_183))).trans hc_167
  have hne_185 : qa_35 ≠ q_173 := h_fr hc_168 hqq_173
  have hc_184 := (show ah_175 qa_35 = _ from (by rw [eah_175]; exact hup_n (hne_185))).trans hc_168
  have hne_187 : q_63 ≠ q_173 := h_fr hc_169 hqq_173
  have hc_186 := (show ah_175 q_63 = _ from (by rw [eah_175]; exact hup_n (hne_187))).trans hc_169
  have hne_189 : qa_76 ≠ q_173 := h_fr hc_170 hqq_173
  have hc_188 := (show ah_175 qa_76 = _ from (by rw [eah_175]; exact hup_n (hne_189))).trans hc_170
  have hne_191 : q_112 ≠ q_173 := h_fr hc_171 hqq_173
  have hc_190 := (show ah_175 q_112 = _ from (by rw [eah_175]; exact hup_n (hne_191))).trans hc_171
  have hne_193 : qa_129 ≠ q_173 := h_fr hc_172 hqq_173
  have hc_192 := (show ah_175 qa_129 = _ from (by rw [eah_175]; exact hup_n (hne_193))).trans hc_172
  have hc_q_173 : ah_175 q_173 = some (.inr (6, [.null, .int 0])) := by rw [eah_175]; exact hup_s
  refine lv_dup hx hb dX8_init_52 rfl ?_
  refine h_callIN (n := 0) (b := q_173) (As := []) (rest := [.ref q_173, .ref sh]) ⟨hx, hb, hml, hown, hts⟩ hK hw (c_X6_init l D dT ah_175 H_174.size q_173 hc_q_173) ko_X6_init (List.mem_of_getElem? (i := 36) rfl) ki_X6_init kn_X6 rfl (by decide +kernel) rfl hl.1 rfl (by simp [Value.category]) dX8_init_53 (by rw [hR]; exact ⟨rfl, rfl, Nat.le_of_ble_eq_true rfl, Nat.le_of_ble_eq_true rfl, by simp, by simp⟩) (fun r_195 ah_196 H_197 L_198 st_199 hp hw hst => ?_)
  obtain ⟨rfl, qa_194, hqqa_194, eah_196⟩ := hp
  obtain ⟨am_200, eam_200⟩ : ∃ z9 : hA, z9 = hup ah_175 qa_194 (.inl (dT 0, 32, .inl (fun _ => 0))) := ⟨_, rfl⟩
  rw [← eam_200] at eah_196
  have hne_202 : sh ≠ qa_194 := h_fr hc_176 hqqa_194
  have hc_201 := (show am_200 sh = _ from (by rw [eam_200]; exact hup_n (hne_202))).trans hc_176
  have hne_204 : q_1 ≠ qa_194 := h_fr hc_178 hqqa_194
  have hc_203 := (show am_200 q_1 = _ from (by rw [eam_200]; exact hup_n (hne_204))).trans hc_178
  have hne_206 : qa_6 ≠ qa_194 := h_fr hc_180 hqqa_194
  have hc_205 := (show am_200 qa_6 = _ from (by rw [eam_200]; exact hup_n (hne_206))).trans hc_180
  have hne_208 : q_26 ≠ qa_194 := h_fr hc_182 hqqa_194
  have hc_207 := (show am_200 q_26 = _ from (by rw [eam_200]; exact hup_n (hne_208))).trans hc_182
  have hne_210 : qa_35 ≠ qa_194 := h_fr hc_184 hqqa_194
  have hc_209 := (show am_200 qa_35 = _ from (by rw [eam_200]; exact hup_n (hne_210))).trans hc_184
  have hne_212 : q_63 ≠ qa_194 := h_fr hc_186 hqqa_194
  have hc_211 := (show am_200 q_63 = _ from (by rw [eam_200]; exact hup_n (hne_212))).trans hc_186
  have hne_214 : qa_76 ≠ qa_194 := h_fr hc_188 hqqa_194
  have hc_213 := (show am_200 qa_76 = _ from (by rw [eam_200]; exact hup_n (hne_214))).trans hc_188
  have hne_216 : q_112 ≠ qa_194 := h_fr hc_190 hqqa_194
  have hc_215 := (show am_200 q_112 = _ from (by rw [eam_200]; exact hup_n (hne_216))).trans hc_190
  have hne_218 : qa_129 ≠ qa_194 := h_fr hc_192 hqqa_194
  have hc_217 := (show am_200 qa_129 = _ from (by rw [eam_200]; exact hup_n (hne_218))).trans hc_192
  have hne_220 : q_173 ≠ qa_194 := h_fr hc_q_173 hqqa_194
  have hc_219 := (show am_200 q_173 = _ from (by rw [eam_200]; exact hup_n (hne_220))).trans hc_q_173
  have hc_qa_194 : am_200 qa_194 = some (.inl (dT 0, 32, .inl (fun _ => 0))) := by rw [eam_200]; exact hup_s
  have hc_221 := (show ah_196 sh = _ from (by rw [eah_196]; exact hup_n (hne_177))).trans hc_201
  have hc_222 := (show ah_196 q_1 = _ from (by rw [eah_196]; exact hup_n (hne_179))).trans hc_203
  have hc_223 := (show ah_196 qa_6 = _ from (by rw [eah_196]; exact hup_n (hne_181))).trans hc_205
  have hc_224 := (show ah_196 q_26 = _ from (by rw [eah_196]; exact hup_n (hne_183))).trans hc_207
  have hc_225 := (show ah_196 qa_35 = _ from (by rw [eah_196]; exact hup_n (hne_185))).trans hc_209
  have hc_226 := (show ah_196 q_63 = _ from (by rw [eah_196]; exact hup_n (hne_187))).trans hc_211
  have hc_227 := (show ah_196 qa_76 = _ from (by rw [eah_196]; exact hup_n (hne_189))).trans hc_213
  have hc_228 := (show ah_196 q_112 = _ from (by rw [eah_196]; exact hup_n (hne_191))).trans hc_215
  have hc_229 := (show ah_196 qa_129 = _ from (by rw [eah_196]; exact hup_n (hne_193))).trans hc_217
  have hc_230 : ah_196 q_173 = some (.inr (6, [.ref qa_194, .int (nI 0)])) := by rw [eah_196]; exact hup_s
  have hc_231 := (show ah_196 qa_194 = _ from (by rw [eah_196]; exact hup_n (hne_220.symm))).trans hc_qa_194
  have hst : st_199 = [.ref q_173, .ref sh] := hst
  subst hst
  refine h_putF (ci := 8) (v := .ref q_173) (C := RX8) (T := TX8) (N := 8) hx hb hts kl_X8 tyX8 tyX8_ok nmX8 hown hK hw hc_221 rfl 4 (by decide) (hts _ kf_X8_27) rfl rfl hin rfl (tyX8_ok 4 (by decide)) rfl rfl (Nat.le_of_ble_eq_true rfl) dX8_init_56 (fun H_232 L_233 hw => ?_)
  obtain ⟨ah_234, eah_234⟩ : ∃ z9 : hA, z9 = hup ah_196 sh (.inr (8, [.ref q_1, .ref q_26, .ref q_63, .ref q_112, .ref q_173, .null, .null, .int 0])) := ⟨_, rfl⟩
  have hw : hW D ah s.heap ah_234 H_232 L_233 := by rw [eah_234]; exact hw
  have hc_235 : ah_234 sh = some (.inr (8, [.ref q_1, .ref q_26, .ref q_63, .ref q_112, .ref q_173, .null, .null, .int 0])) := by rw [eah_234]; exact hup_s
  have hc_236 := (show ah_234 q_1 = _ from (by rw [eah_234]; exact hup_n (hne_5.symm))).trans hc_222
  have hc_237 := (show ah_234 qa_6 = _ from (by rw [eah_234]; exact hup_n (hne_14.symm))).trans hc_223
  have hc_238 := (show ah_234 q_26 = _ from (by rw [eah_234]; exact hup_n (hne_30.symm))).trans hc_224
  have hc_239 := (show ah_234 qa_35 = _ from (by rw [eah_234]; exact hup_n (hne_43.symm))).trans hc_225
  have hc_240 := (show ah_234 q_63 = _ from (by rw [eah_234]; exact hup_n (hne_67.symm))).trans hc_226
  have hc_241 := (show ah_234 qa_76 = _ from (by rw [eah_234]; exact hup_n (hne_84.symm))).trans hc_227
  have hc_242 := (show ah_234 q_112 = _ from (by rw [eah_234]; exact hup_n (hne_116.symm))).trans hc_228
  have hc_243 := (show ah_234 qa_129 = _ from (by rw [eah_234]; exact hup_n (hne_137.symm))).trans hc_229
  have hc_244 := (show ah_234 q_173 = _ from (by rw [eah_234]; exact hup_n (hne_177.symm))).trans hc_230
  have hc_245 := (show ah_234 qa_194 = _ from (by rw [eah_234]; exact hup_n (hne_202.symm))).trans hc_231
  refine lv_aload_n hx hb dX8_init_59 rfl (lv_at hl 0 rfl) ?_
  refine h_new (ci := 6) (fs := [.null, .int 0]) (C := RX6) (T := TX6) (N := 2) hx hb hts kl_X6 tyX6 tyX6_ok hown (hts _ kc_X8_9) (hts _ ka_X6) (hts _ kn_X6) hK hw rfl (hdef_X6) (by rw [hR]; simp; try omega) (by rw [hR]; simp; try omega) dX8_init_60 (fun q_246 H_247 hqq_246 hw => ?_)
  obtain ⟨ah_248, eah_248⟩ : ∃ z9 : hA, z9 = hup ah_234 q_246 (.inr (6, [.null, .int 0])) := ⟨_, rfl⟩
  have hw : hW D ah s.heap ah_248 H_247 L_233 := by rw [eah_248]; exact hw
  have hne_250 : sh ≠ q_246 := h_fr hc_235 hqq_246
  have hc_249 := (show ah_248 sh = _ from (by rw [eah_248]; exact hup_n (hne_250))).trans hc_235
  have hne_252 : q_1 ≠ q_246 := h_fr hc_236 hqq_246
  have hc_251 := (show ah_248 q_1 = _ from (by rw [eah_248]; exact hup_n (hne_252))).trans hc_236
  have hne_254 : qa_6 ≠ q_246 := h_fr hc_237 hqq_246
  have hc_253 := (show ah_248 qa_6 = _ from (by rw [eah_248]; exact hup_n (hne_254))).trans hc_237
  have hne_256 : q_26 ≠ q_246 := h_fr hc_238 hqq_246
  have hc_255 := (show ah_248 q_26 = _ from (by rw [eah_248]; exact hup_n (hne_256))).trans hc_238
  have hne_258 : qa_35 ≠ q_246 := h_fr hc_239 hqq_246
  have hc_257 := (show ah_248 qa_35 = _ from (by rw [eah_248]; exact hup_n (hne_258))).trans hc_239
  have hne_260 : q_63 ≠ q_246 := h_fr hc_240 hqq_246
  have hc_259 := (show ah_248 q_63 = _ from (by rw [eah_248]; exact hup_n (hne_260))).trans hc_240
  have hne_262 : qa_76 ≠ q_246 := h_fr hc_241 hqq_246
  have hc_261 := (show ah_248 qa_76 = _ from (by rw [eah_248]; exact hup_n (hne_262))).trans hc_241
  have hne_264 : q_112 ≠ q_246 := h_fr hc_242 hqq_246
  have hc_263 := (show ah_248 q_112 = _ from (by rw [eah_248]; exact hup_n (hne_264))).trans hc_242
  have hne_266 : qa_129 ≠ q_246 := h_fr hc_243 hqq_246
  have hc_265 := (show ah_248 qa_129 = _ from (by rw [eah_248]; exact hup_n (hne_266))).trans hc_243
  have hne_268 : q_173 ≠ q_246 := h_fr hc_244 hqq_246
  have hc_267 := (show ah_248 q_173 = _ from (by rw [eah_248]; exact hup_n (hne_268))).trans hc_244
  have hne_270 : qa_194 ≠ q_246 := h_fr hc_245 hqq_246
  have hc_269 := (show ah_248 qa_194 = _ from (by rw [eah_248]; exact hup_n (hne_270))).trans hc_245
  have hc_q_246 : ah_248 q_246 = some (.inr (6, [.null, .int 0])) := by rw [eah_248]; exact hup_s
  refine lv_dup hx hb dX8_init_63 rfl ?_
  refine h_callIN (n := 0) (b := q_246) (As := []) (rest := [.ref q_246, .ref sh]) ⟨hx, hb, hml, hown, hts⟩ hK hw (c_X6_init l D dT ah_248 H_247.size q_246 hc_q_246) ko_X6_init (List.mem_of_getElem? (i := 36) rfl) ki_X6_init kn_X6 rfl (by decide +kernel) rfl hl.1 rfl (by simp [Value.category]) dX8_init_64 (by rw [hR]; exact ⟨rfl, rfl, Nat.le_of_ble_eq_true rfl, Nat.le_of_ble_eq_true rfl, by simp, by simp⟩) (fun r_272 ah_273 H_274 L_275 st_276 hp hw hst => ?_)
  obtain ⟨rfl, qa_271, hqqa_271, eah_273⟩ := hp
  obtain ⟨am_277, eam_277⟩ : ∃ z9 : hA, z9 = hup ah_248 qa_271 (.inl (dT 0, 32, .inl (fun _ => 0))) := ⟨_, rfl⟩
  rw [← eam_277] at eah_273
  have hne_279 : sh ≠ qa_271 := h_fr hc_249 hqqa_271
  have hc_278 := (show am_277 sh = _ from (by rw [eam_277]; exact hup_n (hne_279))).trans hc_249
  have hne_281 : q_1 ≠ qa_271 := h_fr hc_251 hqqa_271
  have hc_280 := (show am_277 q_1 = _ from (by rw [eam_277]; exact hup_n (hne_281))).trans hc_251
  have hne_283 : qa_6 ≠ qa_271 := h_fr hc_253 hqqa_271
  have hc_282 := (show am_277 qa_6 = _ from (by rw [eam_277]; exact hup_n (hne_283))).trans hc_253
  have hne_285 : q_26 ≠ qa_271 := h_fr hc_255 hqqa_271
  have hc_284 := (show am_277 q_26 = _ from (by rw [eam_277]; exact hup_n (hne_285))).trans hc_255
  have hne_287 : qa_35 ≠ qa_271 := h_fr hc_257 hqqa_271
  have hc_286 := (show am_277 qa_35 = _ from (by rw [eam_277]; exact hup_n (hne_287))).trans hc_257
  have hne_289 : q_63 ≠ qa_271 := h_fr hc_259 hqqa_271
  have hc_288 := (show am_277 q_63 = _ from (by rw [eam_277]; exact hup_n (hne_289))).trans hc_259
  have hne_291 : qa_76 ≠ qa_271 := h_fr hc_261 hqqa_271
  have hc_290 := (show am_277 qa_76 = _ from (by rw [eam_277]; exact hup_n (hne_291))).trans hc_261
  have hne_293 : q_112 ≠ qa_271 := h_fr hc_263 hqqa_271
  have hc_292 := (show am_277 q_112 = _ from (by rw [eam_277]; exact hup_n (hne_293))).trans hc_263
  have hne_295 : qa_129 ≠ qa_271 := h_fr hc_265 hqqa_271
  have hc_294 := (show am_277 qa_129 = _ from (by rw [eam_277]; exact hup_n (hne_295))).trans hc_265
  have hne_297 : q_173 ≠ qa_271 := h_fr hc_267 hqqa_271
  have hc_296 := (show am_277 q_173 = _ from (by rw [eam_277]; exact hup_n (hne_297))).trans hc_267
  have hne_299 : qa_194 ≠ qa_271 := h_fr hc_269 hqqa_271
  have hc_298 := (show am_277 qa_194 = _ from (by rw [eam_277]; exact hup_n (hne_299))).trans hc_269
  have hne_301 : q_246 ≠ qa_271 := h_fr hc_q_246 hqqa_271
  have hc_300 := (show am_277 q_246 = _ from (by rw [eam_277]; exact hup_n (hne_301))).trans hc_q_246
  have hc_qa_271 : am_277 qa_271 = some (.inl (dT 0, 32, .inl (fun _ => 0))) := by rw [eam_277]; exact hup_s
  have hc_302 := (show ah_273 sh = _ from (by rw [eah_273]; exact hup_n (hne_250))).trans hc_278
  have hc_303 := (show ah_273 q_1 = _ from (by rw [eah_273]; exact hup_n (hne_252))).trans hc_280
  have hc_304 := (show ah_273 qa_6 = _ from (by rw [eah_273]; exact hup_n (hne_254))).trans hc_282
  have hc_305 := (show ah_273 q_26 = _ from (by rw [eah_273]; exact hup_n (hne_256))).trans hc_284
  have hc_306 := (show ah_273 qa_35 = _ from (by rw [eah_273]; exact hup_n (hne_258))).trans hc_286
  have hc_307 := (show ah_273 q_63 = _ from (by rw [eah_273]; exact hup_n (hne_260))).trans hc_288
  have hc_308 := (show ah_273 qa_76 = _ from (by rw [eah_273]; exact hup_n (hne_262))).trans hc_290
  have hc_309 := (show ah_273 q_112 = _ from (by rw [eah_273]; exact hup_n (hne_264))).trans hc_292
  have hc_310 := (show ah_273 qa_129 = _ from (by rw [eah_273]; exact hup_n (hne_266))).trans hc_294
  have hc_311 := (show ah_273 q_173 = _ from (by rw [eah_273]; exact hup_n (hne_268))).trans hc_296
  have hc_312 := (show ah_273 qa_194 = _ from (by rw [eah_273]; exact hup_n (hne_270))).trans hc_298
  have hc_313 : ah_273 q_246 = some (.inr (6, [.ref qa_271, .int (nI 0)])) := by rw [eah_273]; exact hup_s
  have hc_314 := (show ah_273 qa_271 = _ from (by rw [eah_273]; exact hup_n (hne_301.symm))).trans hc_qa_271
  have hst : st_276 = [.ref q_246, .ref sh] := hst
  subst hst
  refine h_putF (ci := 8) (v := .ref q_246) (C := RX8) (T := TX8) (N := 8) hx hb hts kl_X8 tyX8 tyX8_ok nmX8 hown hK hw hc_302 rfl 5 (by decide) (hts _ kf_X8_30) rfl rfl hin rfl (tyX8_ok 5 (by decide)) rfl rfl (Nat.le_of_ble_eq_true rfl) dX8_init_67 (fun H_315 L_316 hw => ?_)
  obtain ⟨ah_317, eah_317⟩ : ∃ z9 : hA, z9 = hup ah_273 sh (.inr (8, [.ref q_1, .ref q_26, .ref q_63, .ref q_112, .ref q_173, .ref q_246, .null, .int 0])) := ⟨_, rfl⟩
  have hw : hW D ah s.heap ah_317 H_315 L_316 := by rw [eah_317]; exact hw
  have hc_318 : ah_317 sh = some (.inr (8, [.ref q_1, .ref q_26, .ref q_63, .ref q_112, .ref q_173, .ref q_246, .null, .int 0])) := by rw [eah_317]; exact hup_s
  have hc_319 := (show ah_317 q_1 = _ from (by rw [eah_317]; exact hup_n (hne_5.symm))).trans hc_303
  have hc_320 := (show ah_317 qa_6 = _ from (by rw [eah_317]; exact hup_n (hne_14.symm))).trans hc_304
  have hc_321 := (show ah_317 q_26 = _ from (by rw [eah_317]; exact hup_n (hne_30.symm))).trans hc_305
  have hc_322 := (show ah_317 qa_35 = _ from (by rw [eah_317]; exact hup_n (hne_43.symm))).trans hc_306
  have hc_323 := (show ah_317 q_63 = _ from (by rw [eah_317]; exact hup_n (hne_67.symm))).trans hc_307
  have hc_324 := (show ah_317 qa_76 = _ from (by rw [eah_317]; exact hup_n (hne_84.symm))).trans hc_308
  have hc_325 := (show ah_317 q_112 = _ from (by rw [eah_317]; exact hup_n (hne_116.symm))).trans hc_309
  have hc_326 := (show ah_317 qa_129 = _ from (by rw [eah_317]; exact hup_n (hne_137.symm))).trans hc_310
  have hc_327 := (show ah_317 q_173 = _ from (by rw [eah_317]; exact hup_n (hne_177.symm))).trans hc_311
  have hc_328 := (show ah_317 qa_194 = _ from (by rw [eah_317]; exact hup_n (hne_202.symm))).trans hc_312
  have hc_329 := (show ah_317 q_246 = _ from (by rw [eah_317]; exact hup_n (hne_250.symm))).trans hc_313
  have hc_330 := (show ah_317 qa_271 = _ from (by rw [eah_317]; exact hup_n (hne_279.symm))).trans hc_314
  refine lv_aload_n hx hb dX8_init_70 rfl (lv_at hl 0 rfl) ?_
  refine h_new (ci := 6) (fs := [.null, .int 0]) (C := RX6) (T := TX6) (N := 2) hx hb hts kl_X6 tyX6 tyX6_ok hown (hts _ kc_X8_9) (hts _ ka_X6) (hts _ kn_X6) hK hw rfl (hdef_X6) (by rw [hR]; simp; try omega) (by rw [hR]; simp; try omega) dX8_init_71 (fun q_331 H_332 hqq_331 hw => ?_)
  obtain ⟨ah_333, eah_333⟩ : ∃ z9 : hA, z9 = hup ah_317 q_331 (.inr (6, [.null, .int 0])) := ⟨_, rfl⟩
  have hw : hW D ah s.heap ah_333 H_332 L_316 := by rw [eah_333]; exact hw
  have hne_335 : sh ≠ q_331 := h_fr hc_318 hqq_331
  have hc_334 := (show ah_333 sh = _ from (by rw [eah_333]; exact hup_n (hne_335))).trans hc_318
  have hne_337 : q_1 ≠ q_331 := h_fr hc_319 hqq_331
  have hc_336 := (show ah_333 q_1 = _ from (by rw [eah_333]; exact hup_n (hne_337))).trans hc_319
  have hne_339 : qa_6 ≠ q_331 := h_fr hc_320 hqq_331
  have hc_338 := (show ah_333 qa_6 = _ from (by rw [eah_333]; exact hup_n (hne_339))).trans hc_320
  have hne_341 : q_26 ≠ q_331 := h_fr hc_321 hqq_331
  have hc_340 := (show ah_333 q_26 = _ from (by rw [eah_333]; exact hup_n (hne_341))).trans hc_321
  have hne_343 : qa_35 ≠ q_331 := h_fr hc_322 hqq_331
  have hc_342 := (show ah_333 qa_35 = _ from (by rw [eah_333]; exact hup_n (hne_343))).trans hc_322
  have hne_345 : q_63 ≠ q_331 := h_fr hc_323 hqq_331
  have hc_344 := (show ah_333 q_63 = _ from (by rw [eah_333]; exact hup_n (hne_345))).trans hc_323
  have hne_347 : qa_76 ≠ q_331 := h_fr hc_324 hqq_331
  have hc_346 := (show ah_333 qa_76 = _ from (by rw [eah_333]; exact hup_n (hne_347))).trans hc_324
  have hne_349 : q_112 ≠ q_331 := h_fr hc_325 hqq_331
  have hc_348 := (show ah_333 q_112 = _ from (by rw [eah_333]; exact hup_n (hne_349))).trans hc_325
  have hne_351 : qa_129 ≠ q_331 := h_fr hc_326 hqq_331
  have hc_350 := (show ah_333 qa_129 = _ from (by rw [eah_333]; exact hup_n (hne_351))).trans hc_326
  have hne_353 : q_173 ≠ q_331 := h_fr hc_327 hqq_331
  have hc_352 := (show ah_333 q_173 = _ from (by rw [eah_333]; exact hup_n (hne_353))).trans hc_327
  have hne_355 : qa_194 ≠ q_331 := h_fr hc_328 hqq_331
  have hc_354 := (show ah_333 qa_194 = _ from (by rw [eah_333]; exact hup_n (hne_355))).trans hc_328
  have hne_357 : q_246 ≠ q_331 := h_fr hc_329 hqq_331
  have hc_356 := (show ah_333 q_246 = _ from (by rw [eah_333]; exact hup_n (hne_357))).trans hc_329
  have hne_359 : qa_271 ≠ q_331 := h_fr hc_330 hqq_331
  have hc_358 := (show ah_333 qa_271 = _ from (by rw [eah_333]; exact hup_n (hne_359))).trans hc_330
  have hc_q_331 : ah_333 q_331 = some (.inr (6, [.null, .int 0])) := by rw [eah_333]; exact hup_s
  refine lv_dup hx hb dX8_init_74 rfl ?_
  refine h_callIN (n := 0) (b := q_331) (As := []) (rest := [.ref q_331, .ref sh]) ⟨hx, hb, hml, hown, hts⟩ hK hw (c_X6_init l D dT ah_333 H_332.size q_331 hc_q_331) ko_X6_init (List.mem_of_getElem? (i := 36) rfl) ki_X6_init kn_X6 rfl (by decide +kernel) rfl hl.1 rfl (by simp [Value.category]) dX8_init_75 (by rw [hR]; exact ⟨rfl, rfl, Nat.le_of_ble_eq_true rfl, Nat.le_of_ble_eq_true rfl, by simp, by simp⟩) (fun r_361 ah_362 H_363 L_364 st_365 hp hw hst => ?_)
  obtain ⟨rfl, qa_360, hqqa_360, eah_362⟩ := hp
  obtain ⟨am_366, eam_366⟩ : ∃ z9 : hA, z9 = hup ah_333 qa_360 (.inl (dT 0, 32, .inl (fun _ => 0))) := ⟨_, rfl⟩
  rw [← eam_366] at eah_362
  have hne_368 : sh ≠ qa_360 := h_fr hc_334 hqqa_360
  have hc_367 := (show am_366 sh = _ from (by rw [eam_366]; exact hup_n (hne_368))).trans hc_334
  have hne_370 : q_1 ≠ qa_360 := h_fr hc_336 hqqa_360
  have hc_369 := (show am_366 q_1 = _ from (by rw [eam_366]; exact hup_n (hne_370))).trans hc_336
  have hne_372 : qa_6 ≠ qa_360 := h_fr hc_338 hqqa_360
  have hc_371 := (show am_366 qa_6 = _ from (by rw [eam_366]; exact hup_n (hne_372))).trans hc_338
  have hne_374 : q_26 ≠ qa_360 := h_fr hc_340 hqqa_360
  have hc_373 := (show am_366 q_26 = _ from (by rw [eam_366]; exact hup_n (hne_374))).trans hc_340
  have hne_376 : qa_35 ≠ qa_360 := h_fr hc_342 hqqa_360
  have hc_375 := (show am_366 qa_35 = _ from (by rw [eam_366]; exact hup_n (hne_376))).trans hc_342
  have hne_378 : q_63 ≠ qa_360 := h_fr hc_344 hqqa_360
  have hc_377 := (show am_366 q_63 = _ from (by rw [eam_366]; exact hup_n (hne_378))).trans hc_344
  have hne_380 : qa_76 ≠ qa_360 := h_fr hc_346 hqqa_360
  have hc_379 := (show am_366 qa_76 = _ from (by rw [eam_366]; exact hup_n (hne_380))).trans hc_346
  have hne_382 : q_112 ≠ qa_360 := h_fr hc_348 hqqa_360
  have hc_381 := (show am_366 q_112 = _ from (by rw [eam_366]; exact hup_n (hne_382))).trans hc_348
  have hne_384 : qa_129 ≠ qa_360 := h_fr hc_350 hqqa_360
  have hc_383 := (show am_366 qa_129 = _ from (by rw [eam_366]; exact hup_n (hne_384))).trans hc_350
  have hne_386 : q_173 ≠ qa_360 := h_fr hc_352 hqqa_360
  have hc_385 := (show am_366 q_173 = _ from (by rw [eam_366]; exact hup_n (hne_386))).trans hc_352
  have hne_388 : qa_194 ≠ qa_360 := h_fr hc_354 hqqa_360
  have hc_387 := (show am_366 qa_194 = _ from (by rw [eam_366]; exact hup_n (hne_388))).trans hc_354
  have hne_390 : q_246 ≠ qa_360 := h_fr hc_356 hqqa_360
  have hc_389 := (show am_366 q_246 = _ from (by rw [eam_366]; exact hup_n (hne_390))).trans hc_356
  have hne_392 : qa_271 ≠ qa_360 := h_fr hc_358 hqqa_360
  have hc_391 := (show am_366 qa_271 = _ from (by rw [eam_366]; exact hup_n (hne_392))).trans hc_358
  have hne_394 : q_331 ≠ qa_360 := h_fr hc_q_331 hqqa_360
  have hc_393 := (show am_366 q_331 = _ from (by rw [eam_366]; exact hup_n (hne_394))).trans hc_q_331
  have hc_qa_360 : am_366 qa_360 = some (.inl (dT 0, 32, .inl (fun _ => 0))) := by rw [eam_366]; exact hup_s
  have hc_395 := (show ah_362 sh = _ from (by rw [eah_362]; exact hup_n (hne_335))).trans hc_367
  have hc_396 := (show ah_362 q_1 = _ from (by rw [eah_362]; exact hup_n (hne_337))).trans hc_369
  have hc_397 := (show ah_362 qa_6 = _ from (by rw [eah_362]; exact hup_n (hne_339))).trans hc_371
  have hc_398 := (show ah_362 q_26 = _ from (by rw [eah_362]; exact hup_n (hne_341))).trans hc_373
  have hc_399 := (show ah_362 qa_35 = _ from (by rw [eah_362]; exact hup_n (hne_343))).trans hc_375
  have hc_400 := (show ah_362 q_63 = _ from (by rw [eah_362]; exact hup_n (hne_345))).trans hc_377
  have hc_401 := (show ah_362 qa_76 = _ from (by rw [eah_362]; exact hup_n (hne_347))).trans hc_379
  have hc_402 := (show ah_362 q_112 = _ from (by rw [eah_362]; exact hup_n (hne_349))).trans hc_381
  have hc_403 := (show ah_362 qa_129 = _ from (by rw [eah_362]; exact hup_n (hne_351))).trans hc_383
  have hc_404 := (show ah_362 q_173 = _ from (by rw [eah_362]; exact hup_n (hne_353))).trans hc_385
  have hc_405 := (show ah_362 qa_194 = _ from (by rw [eah_362]; exact hup_n (hne_355))).trans hc_387
  have hc_406 := (show ah_362 q_246 = _ from (by rw [eah_362]; exact hup_n (hne_357))).trans hc_389
  have hc_407 := (show ah_362 qa_271 = _ from (by rw [eah_362]; exact hup_n (hne_359))).trans hc_391
  have hc_408 : ah_362 q_331 = some (.inr (6, [.ref qa_360, .int (nI 0)])) := by rw [eah_362]; exact hup_s
  have hc_409 := (show ah_362 qa_360 = _ from (by rw [eah_362]; exact hup_n (hne_394.symm))).trans hc_qa_360
  have hst : st_365 = [.ref q_331, .ref sh] := hst
  subst hst
  refine h_putF (ci := 8) (v := .ref q_331) (C := RX8) (T := TX8) (N := 8) hx hb hts kl_X8 tyX8 tyX8_ok nmX8 hown hK hw hc_395 rfl 6 (by decide) (hts _ kf_X8_33) rfl rfl hin rfl (tyX8_ok 6 (by decide)) rfl rfl (Nat.le_of_ble_eq_true rfl) dX8_init_78 (fun H_410 L_411 hw => ?_)
  obtain ⟨ah_412, eah_412⟩ : ∃ z9 : hA, z9 = hup ah_362 sh (.inr (8, [.ref q_1, .ref q_26, .ref q_63, .ref q_112, .ref q_173, .ref q_246, .ref q_331, .int 0])) := ⟨_, rfl⟩
  have hw : hW D ah s.heap ah_412 H_410 L_411 := by rw [eah_412]; exact hw
  have hc_413 : ah_412 sh = some (.inr (8, [.ref q_1, .ref q_26, .ref q_63, .ref q_112, .ref q_173, .ref q_246, .ref q_331, .int 0])) := by rw [eah_412]; exact hup_s
  have hc_414 := (show ah_412 q_1 = _ from (by rw [eah_412]; exact hup_n (hne_5.symm))).trans hc_396
  have hc_415 := (show ah_412 qa_6 = _ from (by rw [eah_412]; exact hup_n (hne_14.symm))).trans hc_397
  have hc_416 := (show ah_412 q_26 = _ from (by rw [eah_412]; exact hup_n (hne_30.symm))).trans hc_398
  have hc_417 := (show ah_412 qa_35 = _ from (by rw [eah_412]; exact hup_n (hne_43.symm))).trans hc_399
  have hc_418 := (show ah_412 q_63 = _ from (by rw [eah_412]; exact hup_n (hne_67.symm))).trans hc_400
  have hc_419 := (show ah_412 qa_76 = _ from (by rw [eah_412]; exact hup_n (hne_84.symm))).trans hc_401
  have hc_420 := (show ah_412 q_112 = _ from (by rw [eah_412]; exact hup_n (hne_116.symm))).trans hc_402
  have hc_421 := (show ah_412 qa_129 = _ from (by rw [eah_412]; exact hup_n (hne_137.symm))).trans hc_403
  have hc_422 := (show ah_412 q_173 = _ from (by rw [eah_412]; exact hup_n (hne_177.symm))).trans hc_404
  have hc_423 := (show ah_412 qa_194 = _ from (by rw [eah_412]; exact hup_n (hne_202.symm))).trans hc_405
  have hc_424 := (show ah_412 q_246 = _ from (by rw [eah_412]; exact hup_n (hne_250.symm))).trans hc_406
  have hc_425 := (show ah_412 qa_271 = _ from (by rw [eah_412]; exact hup_n (hne_279.symm))).trans hc_407
  have hc_426 := (show ah_412 q_331 = _ from (by rw [eah_412]; exact hup_n (hne_335.symm))).trans hc_408
  have hc_427 := (show ah_412 qa_360 = _ from (by rw [eah_412]; exact hup_n (hne_368.symm))).trans hc_409
  rw [hQ]
  exact h_vret hx hb hr hlk hsz hw (by simp) (by simp) dX8_init_81 ⟨rfl, v7 q_1 q_26 q_63 q_112 q_173 q_246 q_331, v7 qa_6 qa_35 qa_76 qa_129 qa_194 qa_271 qa_360, ⟨hc_413, (by intro k9 hk9; rcases (show k9 = 0 ∨ k9 = 1 ∨ k9 = 2 ∨ k9 = 3 ∨ k9 = 4 ∨ k9 = 5 ∨ k9 = 6 by omega) with rfl | rfl | rfl | rfl | rfl | rfl | rfl <;> first | exact ⟨hc_414, hc_415, by decide, by decide, by decide⟩ | exact ⟨hc_416, hc_417, by decide, by decide, by decide⟩ | exact ⟨hc_418, hc_419, by decide, by decide, by decide⟩ | exact ⟨hc_420, hc_421, by decide, by decide, by decide⟩ | exact ⟨hc_422, hc_423, by decide, by decide, by decide⟩ | exact ⟨hc_424, hc_425, by decide, by decide, by decide⟩ | exact ⟨hc_426, hc_427, by decide, by decide, by decide⟩), (by intro i9 j9 hi9 hj9 he9; rcases (show i9 = 0 ∨ i9 = 1 ∨ i9 = 2 ∨ i9 = 3 ∨ i9 = 4 ∨ i9 = 5 ∨ i9 = 6 by omega) with rfl | rfl | rfl | rfl | rfl | rfl | rfl <;> rcases (show j9 = 0 ∨ j9 = 1 ∨ j9 = 2 ∨ j9 = 3 ∨ j9 = 4 ∨ j9 = 5 ∨ j9 = 6 by omega) with rfl | rfl | rfl | rfl | rfl | rfl | rfl <;> first | rfl | exact absurd he9 hne_32 | exact absurd he9 hne_69 | exact absurd he9 hne_118 | exact absurd he9 hne_179 | exact absurd he9 hne_252 | exact absurd he9 hne_337 | exact absurd he9 hne_73 | exact absurd he9 hne_122 | exact absurd he9 hne_183 | exact absurd he9 hne_256 | exact absurd he9 hne_341 | exact absurd he9 hne_126 | exact absurd he9 hne_187 | exact absurd he9 hne_260 | exact absurd he9 hne_345 | exact absurd he9 hne_191 | exact absurd he9 hne_264 | exact absurd he9 hne_349 | exact absurd he9 hne_268 | exact absurd he9 hne_353 | exact absurd he9 hne_357 | exact absurd he9.symm hne_32 | exact absurd he9.symm hne_69 | exact absurd he9.symm hne_118 | exact absurd he9.symm hne_179 | exact absurd he9.symm hne_252 | exact absurd he9.symm hne_337 | exact absurd he9.symm hne_73 | exact absurd he9.symm hne_122 | exact absurd he9.symm hne_183 | exact absurd he9.symm hne_256 | exact absurd he9.symm hne_341 | exact absurd he9.symm hne_126 | exact absurd he9.symm hne_187 | exact absurd he9.symm hne_260 | exact absurd he9.symm hne_345 | exact absurd he9.symm hne_191 | exact absurd he9.symm hne_264 | exact absurd he9.symm hne_349 | exact absurd he9.symm hne_268 | exact absurd he9.symm hne_353 | exact absurd he9.symm hne_357), (by intro i9 j9 hi9 hj9 he9; rcases (show i9 = 0 ∨ i9 = 1 ∨ i9 = 2 ∨ i9 = 3 ∨ i9 = 4 ∨ i9 = 5 ∨ i9 = 6 by omega) with rfl | rfl | rfl | rfl | rfl | rfl | rfl <;> rcases (show j9 = 0 ∨ j9 = 1 ∨ j9 = 2 ∨ j9 = 3 ∨ j9 = 4 ∨ j9 = 5 ∨ j9 = 6 by omega) with rfl | rfl | rfl | rfl | rfl | rfl | rfl <;> first | rfl | exact absurd he9 hne_47 | exact absurd he9 hne_88 | exact absurd he9 hne_141 | exact absurd he9 hne_206 | exact absurd he9 hne_283 | exact absurd he9 hne_372 | exact absurd he9 hne_92 | exact absurd he9 hne_145 | exact absurd he9 hne_210 | exact absurd he9 hne_287 | exact absurd he9 hne_376 | exact absurd he9 hne_149 | exact absurd he9 hne_214 | exact absurd he9 hne_291 | exact absurd he9 hne_380 | exact absurd he9 hne_218 | exact absurd he9 hne_295 | exact absurd he9 hne_384 | exact absurd he9 hne_299 | exact absurd he9 hne_388 | exact absurd he9 hne_392 | exact absurd he9.symm hne_47 | exact absurd he9.symm hne_88 | exact absurd he9.symm hne_141 | exact absurd he9.symm hne_206 | exact absurd he9.symm hne_283 | exact absurd he9.symm hne_372 | exact absurd he9.symm hne_92 | exact absurd he9.symm hne_145 | exact absurd he9.symm hne_210 | exact absurd he9.symm hne_287 | exact absurd he9.symm hne_376 | exact absurd he9.symm hne_149 | exact absurd he9.symm hne_214 | exact absurd he9.symm hne_291 | exact absurd he9.symm hne_380 | exact absurd he9.symm hne_218 | exact absurd he9.symm hne_295 | exact absurd he9.symm hne_384 | exact absurd he9.symm hne_299 | exact absurd he9.symm hne_388 | exact absurd he9.symm hne_392)⟩, fun a e9 h1 h2 => (by have z9_0 : a ≠ q_1 := h_fr h1 hqq_1; have g9_0 : ah_3 a = some e9 := (by rw [eah_3]; exact (hup_n z9_0).trans h1); have z9_1 : a ≠ qa_6 := h_fr g9_0 hqqa_6; have g9_1 : am_12 a = some e9 := (by rw [eam_12]; exact (hup_n z9_1).trans g9_0); have g9_2 : ah_8 a = some e9 := (by rw [eah_8]; exact (hup_n z9_0).trans g9_1); have g9_3 : ah_22 a = some e9 := (by rw [eah_22]; exact (hup_n h2).trans g9_2); have z9_4 : a ≠ q_26 := h_fr g9_3 hqq_26; have g9_4 : ah_28 a = some e9 := (by rw [eah_28]; exact (hup_n z9_4).trans g9_3); have z9_5 : a ≠ qa_35 := h_fr g9_4 hqqa_35; have g9_5 : am_41 a = some e9 := (by rw [eam_41]; exact (hup_n z9_5).trans g9_4); have g9_6 : ah_37 a = some e9 := (by rw [eah_37]; exact (hup_n z9_4).trans g9_5); have g9_7 : ah_57 a = some e9 := (by rw [eah_57]; exact (hup_n h2).trans g9_6); have z9_8 : a ≠ q_63 := h_fr g9_7 hqq_63; have g9_8 : ah_65 a = some e9 := (by rw [eah_65]; exact (hup_n z9_8).trans g9_7); have z9_9 : a ≠ qa_76 := h_fr g9_8 hqqa_76; have g9_9 : am_82 a = some e9 := (by rw [eam_82]; exact (hup_n z9_9).trans g9_8); have g9_10 : ah_78 a = some e9 := (by rw [eah_78]; exact (hup_n z9_8).trans g9_9); have g9_11 : ah_104 a = some e9 := (by rw [eah_104]; exact (hup_n h2).trans g9_10); have z9_12 : a ≠ q_112 := h_fr g9_11 hqq_112; have g9_12 : ah_114 a = some e9 := (by rw [eah_114]; exact (hup_n z9_12).trans g9_11); have z9_13 : a ≠ qa_129 := h_fr g9_12 hqqa_129; have g9_13 : am_135 a = some e9 := (by rw [eam_135]; exact (hup_n z9_13).trans g9_12); have g9_14 : ah_131 a = some e9 := (by rw [eah_131]; exact (hup_n z9_12).trans g9_13); have g9_15 : ah_163 a = some e9 := (by rw [eah_163]; exact (hup_n h2).trans g9_14); have z9_16 : a ≠ q_173 := h_fr g9_15 hqq_173; have g9_16 : ah_175 a = some e9 := (by rw [eah_175]; exact (hup_n z9_16).trans g9_15); have z9_17 : a ≠ qa_194 := h_fr g9_16 hqqa_194; have g9_17 : am_200 a = some e9 := (by rw [eam_200]; exact (hup_n z9_17).trans g9_16); have g9_18 : ah_196 a = some e9 := (by rw [eah_196]; exact (hup_n z9_16).trans g9_17); have g9_19 : ah_234 a = some e9 := (by rw [eah_234]; exact (hup_n h2).trans g9_18); have z9_20 : a ≠ q_246 := h_fr g9_19 hqq_246; have g9_20 : ah_248 a = some e9 := (by rw [eah_248]; exact (hup_n z9_20).trans g9_19); have z9_21 : a ≠ qa_271 := h_fr g9_20 hqqa_271; have g9_21 : am_277 a = some e9 := (by rw [eam_277]; exact (hup_n z9_21).trans g9_20); have g9_22 : ah_273 a = some e9 := (by rw [eah_273]; exact (hup_n z9_20).trans g9_21); have g9_23 : ah_317 a = some e9 := (by rw [eah_317]; exact (hup_n h2).trans g9_22); have z9_24 : a ≠ q_331 := h_fr g9_23 hqq_331; have g9_24 : ah_333 a = some e9 := (by rw [eah_333]; exact (hup_n z9_24).trans g9_23); have z9_25 : a ≠ qa_360 := h_fr g9_24 hqqa_360; have g9_25 : am_366 a = some e9 := (by rw [eam_366]; exact (hup_n z9_25).trans g9_24); have g9_26 : ah_362 a = some e9 := (by rw [eah_362]; exact (hup_n z9_24).trans g9_25); have g9_27 : ah_412 a = some e9 := (by rw [eah_412]; exact (hup_n h2).trans g9_26); exact g9_27)⟩

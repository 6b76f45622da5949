/-! The law begins -/
section
variable {dT : Nat → ClassId} {ah ah2 : hA} {sj sh fd ins pa mt mo : Nat} {RO RA cap AR : Nat → Nat} {ns nc np no nr : Nat} {f g : Nat → Nat → Int32} {q : Nat → Int32} {wh : Int32} {pl : Nat → Int32} {jd : Bool}
theorem cj_ext (hk : ∀ a e9, ah a = some e9 → ah2 a = some e9) (hj : cjA dT ah sj sh fd ins pa mt RO RA cap ns nc np no nr f wh pl jd) : cjA dT ah2 sj sh fd ins pa mt RO RA cap ns nc np no nr f wh pl jd := by
  obtain ⟨h1, ⟨shp, mx, my, i1, i2, i3, i4⟩, ⟨s1, s2, s3⟩, h4⟩ := hj
  exact ⟨hk _ _ h1, ⟨shp, mx, my, hk _ _ i1, hk _ _ i2, hk _ _ i3, hk _ _ i4⟩, ⟨hk _ _ s1, fun k hk7 => ⟨hk _ _ (s2 k hk7).1, hk _ _ (s2 k hk7).2.1, (s2 k hk7).2.2⟩, s3⟩, h4⟩
theorem m_ext (hk : ∀ a e9, ah a = some e9 → ah2 a = some e9) (hm : moA dT ah mo AR q g) : moA dT ah2 mo AR q g := ⟨hk _ _ hm.1, fun k h => hk _ _ (hm.2.1 k h), hm.2.2⟩
theorem mo_0 : moN (fun _ => 0) 0 0 0 0 0 := ⟨rfl, rfl, rfl, rfl, rfl, by omega, by omega, by omega, by omega, by omega⟩
end
set_option maxHeartbeats 4000000 in
set_option maxRecDepth 100000 in
theorem lw_begin {p : Program} {l : Launch} {e : Env} {R : Room} {s : State} {m : MethodId} {args : Array Value} {below : List Frame} {meth : Method} {c : Code} {Q : State → Prop} {D : va_G} {dT : Nat → ClassId} {b L : Nat} {xs : Nat → Int32} (hR : R = room_1) (ah : hA) (hC9 : lwC p s m meth c D dT args b L xs ah) {ls : Array Slot} (hw : hW D ah s.heap ah s.heap []) (hl : lv_has ls 7 [(0, .ref b)])
    (kk : ∀ (ls : Array Slot) (ah2 : hA) (H2 : Heap) (L2 : List Loc) (cl2 sl2 cr2 sr2 sj mo out : Nat), lwI dT ah2 sj mo out 0 cr2 sr2 → hW D ah s.heap ah2 H2 L2 → cl2 + cr2 ≤ 100 + 13 * 0 → sl2 + sr2 ≤ 40000 + 5143 * 0 → lv_has ls 7 [(4, .int (nI (3 * 0))), (3, .ref out), (2, .ref mo), (1, .ref sj), (0, .ref b)] → W p l e R s m args below meth c H2 L2 cl2 sl2 Q (F0 m 23 ls [])) : W p l e R s m args below meth c s.heap [] 0 0 Q (F0 m 0 ls []) := by
  obtain ⟨hx, hb, hml, hown, hts, hK, hX9, hY9, hXX, hbl, hbA⟩ := hC9
  refine h_new (ci := 9) (fs := [.null, .null, .null, .int 0]) (C := RX9) (T := TX9) (N := 4) hx hb hts kl_X9 tyX9 tyX9_ok hown (hts _ kc_L_8) (hts _ ka_X9) (hts _ kn_X9) hK hw rfl (hdef_X9) (by rw [hR]; exact Nat.le_of_ble_eq_true rfl) (by rw [hR]; exact Nat.le_of_ble_eq_true rfl) dL_law_0 (fun q_1 H_2 hqq_1 hw => ?_)
  obtain ⟨ah_3, eah_3⟩ : ∃ z9 : hA, z9 = hup ah q_1 (.inr (9, [.null, .null, .null, .int 0])) := ⟨_, rfl⟩
  have hw : hW D ah s.heap ah_3 H_2 [] := by rw [eah_3]; exact hw
  have hc_q_1 : ah_3 q_1 = some (.inr (9, [.null, .null, .null, .int 0])) := by rw [eah_3]; exact hup_s
  refine lv_dup hx hb dL_law_3 rfl ?_
  refine h_callI (n := 0) (b := q_1) (As := []) (rest := [.ref q_1]) ⟨hx, hb, hml, hown, hts⟩ hK hw (c_X9_init l D dT ah_3 H_2.size q_1 hc_q_1) ko_X9_init km_L_38 ki_X9_init kn_X9 rfl (by decide +kernel) rfl hl.1 rfl (by simp [Value.category]) dL_law_4 (by rw [hR]; exact ⟨rfl, rfl, Nat.le_of_ble_eq_true rfl, Nat.le_of_ble_eq_true rfl, by show _ ≤ 601024; exact Nat.le_of_ble_eq_true rfl, by show _ ≤ 7293034; exact Nat.le_of_ble_eq_true rfl⟩) (fun r_4 ah_5 H_6 L_7 st_8 hp hw hst => ?_)
  obtain ⟨rfl, sh, fd, ins, pa, mt, RO, RA, hj, hf1⟩ := hp
  have hst : st_8 = [.ref q_1] := hst
  subst hst
  refine lv_astore_n (lv' := [(1, .ref q_1), (0, .ref b)]) hx hb dL_law_7 rfl hl (by decide) rfl (fun ls hl => ?_)
  refine h_new (ci := 10) (fs := [.int 0, .int 0, .int 0, .int 0, .int 0, .null, .null, .null, .null, .null, .null, .null, .null, .null, .null, .null, .int 0, .null, .null, .int 0, .int 0, .null, .int 0, .int 0, .int 0, .int 0]) (C := RX10) (T := TX10) (N := 26) hx hb hts kl_X10 tyX10 tyX10_ok hown (hts _ kc_L_39) (hts _ ka_X10) (hts _ kn_X10) hK hw rfl (hdef_X10) (by rw [hR]; exact Nat.le_of_ble_eq_true rfl) (by rw [hR]; exact Nat.le_of_ble_eq_true rfl) dL_law_8 (fun q_9 H_10 hqq_9 hw => ?_)
  obtain ⟨ah_11, eah_11⟩ : ∃ z9 : hA, z9 = hup ah_5 q_9 (.inr (10, [.int 0, .int 0, .int 0, .int 0, .int 0, .null, .null, .null, .null, .null, .null, .null, .null, .null, .null, .null, .int 0, .null, .null, .int 0, .int 0, .null, .int 0, .int 0, .int 0, .int 0])) := ⟨_, rfl⟩
  have hw : hW D ah s.heap ah_11 H_10 L_7 := by rw [eah_11]; exact hw
  have hc_q_9 : ah_11 q_9 = some (.inr (10, [.int 0, .int 0, .int 0, .int 0, .int 0, .null, .null, .null, .null, .null, .null, .null, .null, .null, .null, .null, .int 0, .null, .null, .int 0, .int 0, .null, .int 0, .int 0, .int 0, .int 0])) := by rw [eah_11]; exact hup_s
  refine lv_dup hx hb dL_law_11 rfl ?_
  refine h_callI (n := 0) (b := q_9) (As := []) (rest := [.ref q_9]) ⟨hx, hb, hml, hown, hts⟩ hK hw (c_X10_init l D dT ah_11 H_10.size q_9 hc_q_9) ko_X10_init km_L_41 ki_X10_init kn_X10 rfl (by decide +kernel) rfl hl.1 rfl (by simp [Value.category]) dL_law_12 (by rw [hR]; exact ⟨rfl, rfl, Nat.le_of_ble_eq_true rfl, Nat.le_of_ble_eq_true rfl, by show _ ≤ 601024; exact Nat.le_of_ble_eq_true rfl, by show _ ≤ 7293034; exact Nat.le_of_ble_eq_true rfl⟩) (fun r_12 ah_13 H_14 L_15 st_16 hp hw hst => ?_)
  obtain ⟨AR, g, rfl, hm, hg0, hg12, hAR, hf2⟩ := hp
  have hst : st_16 = [.ref q_9] := hst
  subst hst
  refine lv_astore_n (lv' := [(2, .ref q_9), (1, .ref q_1), (0, .ref b)]) hx hb dL_law_15 rfl hl (by decide) rfl (fun ls hl => ?_)
  refine lv_iconst (v := 1) hx hb dL_law_16 (by decide) ?_
  refine h_newl hx hb (hts _ kA_long) hK hw 1 (by decide) (by omega) (by rw [hR]; exact Nat.le_of_ble_eq_true rfl) (by rw [hR]; exact Nat.le_of_ble_eq_true rfl) dL_law_17 (fun q_17 H_18 hqq_17 hw => ?_)
  obtain ⟨ah_19, eah_19⟩ : ∃ z9 : hA, z9 = hup ah_13 q_17 (.inl (dT 1, 1, .inr (.inl (fun _ => 0)))) := ⟨_, rfl⟩
  have hw : hW D ah s.heap ah_19 H_18 L_15 := by rw [eah_19]; exact hw
  have hc_q_17 : ah_19 q_17 = some (.inl (dT 1, 1, .inr (.inl (fun _ => 0)))) := by rw [eah_19]; exact hup_s
  refine lv_astore_n (lv' := [(3, .ref q_17), (2, .ref q_9), (1, .ref q_1), (0, .ref b)]) hx hb dL_law_19 rfl hl (by decide) rfl (fun ls hl => ?_)
  refine lv_iconst (v := 0) hx hb dL_law_20 (by decide) ?_
  refine lv_istore (lv' := [(4, .int 0), (3, .ref q_17), (2, .ref q_9), (1, .ref q_1), (0, .ref b)]) hx hb dL_law_21 hl (by decide) rfl (fun ls hl => ?_)
  have hm9 : moA dT ah_19 q_9 AR (fun _ => 0) g := m_ext (fun a e9 h9 => by rw [eah_19, hup_n (h_fr h9 hqq_17)]; exact h9) hm
  have hxx : ∀ a e9, ah_5 a = some e9 → ah_11 a = some e9 := fun a e9 h9 => by rw [eah_11, hup_n (h_fr h9 hqq_9)]; exact h9
  have hx9 : ∀ a e9, ah_5 a = some e9 → ah_19 a = some e9 := fun a e9 h9 => by
    have h8 := hf2 a e9 (hxx a e9 h9) (h_fr h9 hqq_9)
    rw [eah_19, hup_n (h_fr h8 hqq_17)]; exact h8
  refine kk ls ah_19 H_18 L_15 (0 + 1 + 19 + 1 + 14 + 1) (0 + 4 + 261 + 26 + 34873 + 1) 0 0 q_1 q_9 q_17 ⟨sh, fd, ins, pa, mt, RO, RA, (fun _ => 32), AR, 0, 0, 0, 0, 0, (fun _ _ => 0), g, (fun _ => 0), 0, (fillF (fun _ => 0) (-1) 7), false, _, _, _, _, _, _, _, _, _, _, (fun _ => 0), cj_ext hx9 hj, hm9, jI_0 (mo_0) (fun j h7 => if_pos h7) (fun j h7 => (hg12 j h7).trans (if_pos h7).symm), hc_q_17, ⟨fun i j hi hj9 h9 => ?_, fun j hj9 h9 => ?_⟩, Nat.le_refl _, rfl, rfl⟩ hw (by omega) (by omega) (lv_sub hl [0, 1, 2, 3, 4] rfl)
  · exact absurd (hAR j hj9) (by rw [← h9, hxx _ _ (hj.2.2.1.2.1 i hi).2.1]; intro h; cases h)
  · exact absurd (hAR j hj9) (by rw [← h9]; obtain ⟨-, ⟨shp, mx, my, i1, i2, i3, i4⟩, -⟩ := hj; rw [hxx _ _ i3]; intro h; cases h)

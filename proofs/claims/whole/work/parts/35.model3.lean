/-! ShapeJudgeModel: pairs of steps -/
theorem nxF_b {X Y : Nat → Int32} {p m : Nat} (hm : 2 ≤ m) (n k a : Nat) (hk : p ≤ k) (ha : p ≤ a ∧ a + 1 < p + m) : p ≤ nxF X Y p m n k a ∧ nxF X Y p m n k a + 1 < p + m := by
  induction n generalizing k with
  | zero => exact ha
  | succ n ih =>
    have hw := nxW_b (p := p) (m := m) (k := k) hk hm
    rw [nxF]
    split
    · exact ih _ (by omega)
    · exact hw
/-- the step that leads on from the meeting point -/
def mWb (X Y : Nat → Int32) (p m : Nat) (mx my : Int32) (a : Nat) : Nat := if X (a + 1) = mx then (if Y (a + 1) = my then nxF X Y p m m (a + 1) a else a) else a
theorem mWb_e {X Y : Nat → Int32} {p m : Nat} {mx my : Int32} {a : Nat} : (if (if X (a + 1) = mx then (if Y (a + 1) = my then (1 : Int32) else 0) else 0) = 0 then nI a else nI (nxF X Y p m m (a + 1) a)) = nI (mWb X Y p m mx my a) := by
  unfold mWb; by_cases h1 : X (a + 1) = mx <;> by_cases h2 : Y (a + 1) = my <;> simp [h1, h2]
theorem mWb_b {X Y : Nat → Int32} {p m : Nat} {mx my : Int32} {a : Nat} (h0 : p ≤ a) (h1 : a + 1 < p + m) : p ≤ mWb X Y p m mx my a ∧ mWb X Y p m mx my a + 1 < p + m := by
  unfold mWb; split
  · split
    · exact nxF_b (by omega) _ _ _ (by omega) ⟨h0, h1⟩
    · exact ⟨h0, h1⟩
  · exact ⟨h0, h1⟩
/-- whether the rings cross at the meeting point -/
def mCr (X Y : Nat → Int32) (RP RN : Nat → Nat) (mx my : Int32) (r a q b : Nat) : Bool :=
  if bI (ilf (X b - mx) (Y b - my) (X (mWb X Y (RP r) (RN r) mx my a + 1) - mx) (Y (mWb X Y (RP r) (RN r) mx my a + 1) - my) (X a - mx) (Y a - my)) = bI (ilf (X (mWb X Y (RP q) (RN q) mx my b + 1) - mx) (Y (mWb X Y (RP q) (RN q) mx my b + 1) - my) (X (mWb X Y (RP r) (RN r) mx my a + 1) - mx) (Y (mWb X Y (RP r) (RN r) mx my a + 1) - my) (X a - mx) (Y a - my)) then false else true
theorem mCr_e {X Y : Nat → Int32} {RP RN : Nat → Nat} {mx my : Int32} {r a q b : Nat} : (if bI (ilf (X b - mx) (Y b - my) (X (mWb X Y (RP r) (RN r) mx my a + 1) - mx) (Y (mWb X Y (RP r) (RN r) mx my a + 1) - my) (X a - mx) (Y a - my)) = bI (ilf (X (mWb X Y (RP q) (RN q) mx my b + 1) - mx) (Y (mWb X Y (RP q) (RN q) mx my b + 1) - my) (X (mWb X Y (RP r) (RN r) mx my a + 1) - mx) (Y (mWb X Y (RP r) (RN r) mx my a + 1) - my) (X a - mx) (Y a - my)) then (0 : Int32) else 1) = bI (mCr X Y RP RN mx my r a q b) := by
  unfold mCr; split <;> rfl
set_option maxHeartbeats 4000000 in
set_option maxRecDepth 100000 in
theorem c_X10_ways (l : Launch) (D : va_G) (dT : Nat → ClassId) (ah : hA) (sz : Nat) (mo : Nat) (AR : Nat → Nat) (q : Nat → Int32) (g : Nat → Nat → Int32) (hm : moA dT ah mo AR q g) (np : Nat) (X Y : Nat → Int32) (hX : moX np g X Y) (nr : Nat) (RP RN : Nat → Nat) (hRg : moR np nr g RP RN) (r9 a : Nat) (hr9 : r9 < nr) (ha0 : RP r9 ≤ a) (ha : a + 1 < RP r9 + RN r9) (mx my : Int32) (h6 : q 6 = mx) (h7 : q 7 = my) : hMet l yX10_ways cX10_ways 5 none ({ frames := 3, cells := 0, slots := 0, locals := 67 }) D dT [.ref mo, .int (nI r9), .int (nI a)] ah sz (fun r ah2 => ∃ q2, r = none ∧ ah2 = hup ah mo (.inr (10, moF q2 AR)) ∧ (∀ k9, k9 < 8 → q2 k9 = q k9) ∧ q2 8 = X a - mx ∧ q2 9 = Y a - my ∧ q2 10 = X (mWb X Y (RP r9) (RN r9) mx my a + 1) - mx ∧ q2 11 = Y (mWb X Y (RP r9) (RN r9) mx my a + 1) - my) 0 0 := by
  refine h_met (by decide) (Nat.le_of_ble_eq_true rfl) ?_
  intro p e s m below meth c ls R Q args hav hR hQ hB hl hsz hw
  obtain ⟨hx, hb, hml, hr, hts, hown, hlk, hin, hK⟩ := hB
  have hown : s.vm.findClass RX10 = some m.cls := hown
  have hl : lv_has ls 5 [(0, .ref mo), (1, .int (nI r9)), (2, .int (nI a))] := hl
  have hnp := hX.1
  have hnr := hRg.1
  have hrb_r9 := (hRg.2 r9 (by omega)).2.2
  refine lv_aload_n hx hb dX10_ways_0 rfl (lv_at hl 0 rfl) ?_
  refine lv_aload_n hx hb dX10_ways_1 rfl (lv_at hl 0 rfl) ?_
  refine h_get (ci := 10) (v := .ref (AR 9)) (C := RX10) (T := TX10) (N := 26) hx hb hts kl_X10 hown hK hw hm.1 rfl 14 (by decide) (hts _ kf_X10_37) rfl rfl dX10_ways_2 ?_
  refine lv_iload_n hx hb dX10_ways_5 rfl (lv_at hl 2 rfl) ?_
  refine h_iald hx hb hK hw (moA_a (n := 4096) (f := g 9) hm 9 (by decide) rfl rfl) a rfl (by omega) (by omega) dX10_ways_6 ?_
  rw [show (g 9) a = X a from (hX.2 _ (by omega)).1]
  refine lv_aload_n hx hb dX10_ways_7 rfl (lv_at hl 0 rfl) ?_
  refine h_get (ci := 10) (v := .int (q 6)) (C := RX10) (T := TX10) (N := 26) hx hb hts kl_X10 hown hK hw hm.1 rfl 19 (by decide) (hts _ kf_X10_114) rfl rfl dX10_ways_8 ?_
  rw [show q 6 = mx from h6]
  refine lv_isub hx hb dX10_ways_11 ?_
  refine h_put (ci := 10) (v := .int (X a - mx)) (C := RX10) (T := TX10) (N := 26) hx hb hts kl_X10 tyX10 tyX10_ok nmX10 hown hK hw hm.1 rfl 22 (by decide) (hts _ kf_X10_145) rfl rfl (tyX10_ok 22 (by decide)) rfl rfl (Nat.le_of_ble_eq_true rfl) dX10_ways_12 (fun H_1 L_2 hw => ?_)
  obtain ⟨ah_3, eah_3⟩ : ∃ z9 : hA, z9 = hup ah mo (.inr (10, moF (upd q 8 (X a - mx)) AR)) := ⟨_, rfl⟩
  have hw : hW D ah s.heap ah_3 H_1 L_2 := by rw [eah_3, ← mf_22]; exact hw
  have hm_4 : moA dT ah_3 mo AR (upd q 8 (X a - mx)) g := moA_q hm eah_3
  refine lv_aload_n hx hb dX10_ways_15 rfl (lv_at hl 0 rfl) ?_
  refine lv_aload_n hx hb dX10_ways_16 rfl (lv_at hl 0 rfl) ?_
  refine h_get (ci := 10) (v := .ref (AR 10)) (C := RX10) (T := TX10) (N := 26) hx hb hts kl_X10 hown hK hw hm_4.1 rfl 15 (by decide) (hts _ kf_X10_40) rfl rfl dX10_ways_17 ?_
  refine lv_iload_n hx hb dX10_ways_20 rfl (lv_at hl 2 rfl) ?_
  refine h_iald hx hb hK hw (moA_a (n := 4096) (f := g 10) hm_4 10 (by decide) rfl rfl) a rfl (by omega) (by omega) dX10_ways_21 ?_
  rw [show (g 10) a = Y a from (hX.2 _ (by omega)).2]
  refine lv_aload_n hx hb dX10_ways_22 rfl (lv_at hl 0 rfl) ?_
  refine h_get (ci := 10) (v := .int (q 7)) (C := RX10) (T := TX10) (N := 26) hx hb hts kl_X10 hown hK hw hm_4.1 rfl 20 (by decide) (hts _ kf_X10_117) rfl (congrArg (fun z => some (Value.int z)) (show (upd q 8 (X a - mx)) 7 = q 7 from (upd_n (by decide)))) dX10_ways_23 ?_
  rw [show q 7 = my from h7]
  refine lv_isub hx hb dX10_ways_26 ?_
  refine h_put (ci := 10) (v := .int (Y a - my)) (C := RX10) (T := TX10) (N := 26) hx hb hts kl_X10 tyX10 tyX10_ok nmX10 hown hK hw hm_4.1 rfl 23 (by decide) (hts _ kf_X10_148) rfl rfl (tyX10_ok 23 (by decide)) rfl rfl (Nat.le_of_ble_eq_true rfl) dX10_ways_27 (fun H_5 L_6 hw => ?_)
  obtain ⟨ah_7, eah_7⟩ : ∃ z9 : hA, z9 = hup ah_3 mo (.inr (10, moF (upd (upd q 8 (X a - mx)) 9 (Y a - my)) AR)) := ⟨_, rfl⟩
  have hw : hW D ah s.heap ah_7 H_5 L_6 := by rw [eah_7, ← mf_23]; exact hw
  have hm_8 : moA dT ah_7 mo AR (upd (upd q 8 (X a - mx)) 9 (Y a - my)) g := moA_q hm_4 eah_7
  refine lv_aload_n hx hb dX10_ways_30 rfl (lv_at hl 0 rfl) ?_
  refine h_get (ci := 10) (v := .ref (AR 9)) (C := RX10) (T := TX10) (N := 26) hx hb hts kl_X10 hown hK hw hm_8.1 rfl 14 (by decide) (hts _ kf_X10_37) rfl rfl dX10_ways_31 ?_
  refine lv_iload_n hx hb dX10_ways_34 rfl (lv_at hl 2 rfl) ?_
  refine lv_iconst (v := 1) hx hb dX10_ways_35 (by decide) ?_
  refine lv_iadd hx hb dX10_ways_36 ?_
  refine lv_topi (fun t_9 et_9 => ?_)
  obtain rfl : t_9 = nI (a + 1) := et_9.trans (nI_c _ 1)
  refine h_iald hx hb hK hw (moA_a (n := 4096) (f := g 9) hm_8 9 (by decide) rfl rfl) (a + 1) rfl (by omega) (by omega) dX10_ways_37 ?_
  rw [show (g 9) (a + 1) = X (a + 1) from (hX.2 _ (by omega)).1]
  refine lv_aload_n hx hb dX10_ways_38 rfl (lv_at hl 0 rfl) ?_
  refine h_get (ci := 10) (v := .int (q 6)) (C := RX10) (T := TX10) (N := 26) hx hb hts kl_X10 hown hK hw hm_8.1 rfl 19 (by decide) (hts _ kf_X10_114) rfl (congrArg (fun z => some (Value.int z)) (show (upd (upd q 8 (X a - mx)) 9 (Y a - my)) 6 = q 6 from ((upd_n (by decide)).trans (upd_n (by decide))))) dX10_ways_39 ?_
  rw [show q 6 = mx from h6]
  have J_14 : ∀ (v_13 : Int32) (ls : Array Slot), lv_has ls 5 [(0, .ref mo), (1, .int (nI r9)), (2, .int (nI a))] → v_13 = (if X (a + 1) = mx then (if Y (a + 1) = my then 1 else 0) else 0) → W p l e R s m args below meth c H_5 L_6 (0) (0) Q (F0 m 65 ls [.int v_13]) := by
    intro v_13 ls hl ev_13
    refine lv_istore_n (lv' := [(3, .int v_13), (0, .ref mo), (1, .int (nI r9)), (2, .int (nI a))]) hx hb dX10_ways_65 rfl hl (by decide) rfl (fun ls hl => ?_)
    refine lv_iload_n hx hb dX10_ways_66 rfl (lv_at hl 0 rfl) ?_
    have J_25 : ∀ (v_24 : Int32) (ls : Array Slot) (H_22 : Heap) (L_23 : List Loc), lv_has ls 5 [(3, .int v_13), (0, .ref mo), (1, .int (nI r9)), (2, .int (nI a))] → hW D ah s.heap ah_7 H_22 L_23 → v_24 = (if v_13 = 0 then nI a else nI (nxF X Y (RP r9) (RN r9) (RN r9) (a + 1) a)) → W p l e R s m args below meth c H_22 L_23 (0) (0) Q (F0 m 80 ls [.int v_24]) := by
      intro v_24 ls H_22 L_23 hl hw ev_24
      have hv9 : v_24 = nI (mWb X Y (RP r9) (RN r9) mx my a) := ev_24.trans (by rw [ev_13]; exact mWb_e)
      subst hv9
      have hnw := mWb_b (X := X) (Y := Y) (mx := mx) (my := my) ha0 ha
      refine lv_istore (lv' := [(4, .int (nI (mWb X Y (RP r9) (RN r9) mx my a))), (3, .int v_13), (0, .ref mo), (1, .int (nI r9)), (2, .int (nI a))]) hx hb dX10_ways_80 hl (by decide) rfl (fun ls hl => ?_)
      refine lv_aload_n hx hb dX10_ways_82 rfl (lv_at hl 2 rfl) ?_
      refine lv_aload_n hx hb dX10_ways_83 rfl (lv_at hl 2 rfl) ?_
      refine h_get (ci := 10) (v := .ref (AR 9)) (C := RX10) (T := TX10) (N := 26) hx hb hts kl_X10 hown hK hw hm_8.1 rfl 14 (by decide) (hts _ kf_X10_37) rfl rfl dX10_ways_84 ?_
      refine lv_iload hx hb dX10_ways_87 (lv_at hl 0 rfl) ?_
      refine lv_iconst (v := 1) hx hb dX10_ways_89 (by decide) ?_
      refine lv_iadd hx hb dX10_ways_90 ?_
      refine lv_topi (fun t_26 et_26 => ?_)
      obtain rfl : t_26 = nI (mWb X Y (RP r9) (RN r9) mx my a + 1) := et_26.trans (nI_c _ 1)
      refine h_iald hx hb hK hw (moA_a (n := 4096) (f := g 9) hm_8 9 (by decide) rfl rfl) (mWb X Y (RP r9) (RN r9) mx my a + 1) rfl (by omega) (by omega) dX10_ways_91 ?_
      rw [show (g 9) (mWb X Y (RP r9) (RN r9) mx my a + 1) = X (mWb X Y (RP r9) (RN r9) mx my a + 1) from (hX.2 _ (by omega)).1]
      refine lv_aload_n hx hb dX10_ways_92 rfl (lv_at hl 2 rfl) ?_
      refine h_get (ci := 10) (v := .int (q 6)) (C := RX10) (T := TX10) (N := 26) hx hb hts kl_X10 hown hK hw hm_8.1 rfl 19 (by decide) (hts _ kf_X10_114) rfl (congrArg (fun z => some (Value.int z)) (show (upd (upd q 8 (X a - mx)) 9 (Y a - my)) 6 = q 6 from ((upd_n (by decide)).trans (upd_n (by decide))))) dX10_ways_93 ?_
      rw [show q 6 = mx from h6]
      refine lv_isub hx hb dX10_ways_96 ?_
      refine h_put (ci := 10) (v := .int (X (mWb X Y (RP r9) (RN r9) mx my a + 1) - mx)) (C := RX10) (T := TX10) (N := 26) hx hb hts kl_X10 tyX10 tyX10_ok nmX10 hown hK hw hm_8.1 rfl 24 (by decide) (hts _ kf_X10_154) rfl rfl (tyX10_ok 24 (by decide)) rfl rfl (Nat.le_of_ble_eq_true rfl) dX10_ways_97 (fun H_27 L_28 hw => ?_)
      obtain ⟨ah_29, eah_29⟩ : ∃ z9 : hA, z9 = hup ah_7 mo (.inr (10, moF (upd (upd (upd q 8 (X a - mx)) 9 (Y a - my)) 10 (X (mWb X Y (RP r9) (RN r9) mx my a + 1) - mx)) AR)) := ⟨_, rfl⟩
      have hw : hW D ah s.heap ah_29 H_27 L_28 := by rw [eah_29, ← mf_24]; exact hw
      have hm_30 : moA dT ah_29 mo AR (upd (upd (upd q 8 (X a - mx)) 9 (Y a - my)) 10 (X (mWb X Y (RP r9) (RN r9) mx my a + 1) - mx)) g := moA_q hm_8 eah_29
      refine lv_aload_n hx hb dX10_ways_100 rfl (lv_at hl 2 rfl) ?_
      refine lv_aload_n hx hb dX10_ways_101 rfl (lv_at hl 2 rfl) ?_
      refine h_get (ci := 10) (v := .ref (AR 10)) (C := RX10) (T := TX10) (N := 26) hx hb hts kl_X10 hown hK hw hm_30.1 rfl 15 (by decide) (hts _ kf_X10_40) rfl rfl dX10_ways_102 ?_
      refine lv_iload hx hb dX10_ways_105 (lv_at hl 0 rfl) ?_
      refine lv_iconst (v := 1) hx hb dX10_ways_107 (by decide) ?_
      refine lv_iadd hx hb dX10_ways_108 ?_
      refine lv_topi (fun t_31 et_31 => ?_)
      obtain rfl : t_31 = nI (mWb X Y (RP r9) (RN r9) mx my a + 1) := et_31.trans (nI_c _ 1)
      refine h_iald hx hb hK hw (moA_a (n := 4096) (f := g 10) hm_30 10 (by decide) rfl rfl) (mWb X Y (RP r9) (RN r9) mx my a + 1) rfl (by omega) (by omega) dX10_ways_109 ?_
      rw [show (g 10) (mWb X Y (RP r9) (RN r9) mx my a + 1) = Y (mWb X Y (RP r9) (RN r9) mx my a + 1) from (hX.2 _ (by omega)).2]
      refine lv_aload_n hx hb dX10_ways_110 rfl (lv_at hl 2 rfl) ?_
      refine h_get (ci := 10) (v := .int (q 7)) (C := RX10) (T := TX10) (N := 26) hx hb hts kl_X10 hown hK hw hm_30.1 rfl 20 (by decide) (hts _ kf_X10_117) rfl (congrArg (fun z => some (Value.int z)) (show (upd (upd (upd q 8 (X a - mx)) 9 (Y a - my)) 10 (X (mWb X Y (RP r9) (RN r9) mx my a + 1) - mx)) 7 = q 7 from ((upd_n (by decide)).trans ((upd_n (by decide)).trans (upd_n (by decide)))))) dX10_ways_111 ?_
      rw [show q 7 = my from h7]
      refine lv_isub hx hb dX10_ways_114 ?_
      refine h_put (ci := 10) (v := .int (Y (mWb X Y (RP r9) (RN r9) mx my a + 1) - my)) (C := RX10) (T := TX10) (N := 26) hx hb hts kl_X10 tyX10 tyX10_ok nmX10 hown hK hw hm_30.1 rfl 25 (by decide) (hts _ kf_X10_157) rfl rfl (tyX10_ok 25 (by decide)) rfl rfl (Nat.le_of_ble_eq_true rfl) dX10_ways_115 (fun H_32 L_33 hw => ?_)
      obtain ⟨ah_34, eah_34⟩ : ∃ z9 : hA, z9 = hup ah_29 mo (.inr (10, moF (upd (upd (upd (upd q 8 (X a - mx)) 9 (Y a - my)) 10 (X (mWb X Y (RP r9) (RN r9) mx my a + 1) - mx)) 11 (Y (mWb X Y (RP r9) (RN r9) mx my a + 1) - my)) AR)) := ⟨_, rfl⟩
      have hw : hW D ah s.heap ah_34 H_32 L_33 := by rw [eah_34, ← mf_25]; exact hw
      have hm_35 : moA dT ah_34 mo AR (upd (upd (upd (upd q 8 (X a - mx)) 9 (Y a - my)) 10 (X (mWb X Y (RP r9) (RN r9) mx my a + 1) - mx)) 11 (Y (mWb X Y (RP r9) (RN r9) mx my a + 1) - my)) g := moA_q hm_30 eah_34
      rw [hQ]
      exact h_vret hx hb hr hlk hsz hw (by simp) (by simp) dX10_ways_118 ⟨(upd (upd (upd (upd q 8 (X a - mx)) 9 (Y a - my)) 10 (X (mWb X Y (RP r9) (RN r9) mx my a + 1) - mx)) 11 (Y (mWb X Y (RP r9) (RN r9) mx my a + 1) - my)), rfl, (by subst_vars; simp only [hup_hup]), (fun k hk => by rw [upd_n (by omega), upd_n (by omega), upd_n (by omega), upd_n (by omega)]), ((upd_n (by decide)).trans ((upd_n (by decide)).trans ((upd_n (by decide)).trans upd_e))), ((upd_n (by decide)).trans ((upd_n (by decide)).trans upd_e)), ((upd_n (by decide)).trans upd_e), upd_e⟩
    refine lv_if_eq (tgt := 79) hx hb dX10_ways_67 (by decide) (fun c_15 => ?_) (fun c_15 => ?_)
    · skip
      refine lv_iload_n hx hb dX10_ways_79 rfl (lv_at hl 3 rfl) ?_
      exact J_25 (nI a) ls _ _ (lv_sub hl [0, 1, 2, 3] rfl) hw (by rw [if_pos c_15])
    · skip
      refine lv_aload_n hx hb dX10_ways_70 rfl (lv_at hl 1 rfl) ?_
      refine lv_iload_n hx hb dX10_ways_71 rfl (lv_at hl 2 rfl) ?_
      refine lv_iload_n hx hb dX10_ways_72 rfl (lv_at hl 3 rfl) ?_
      refine h_callV (n := 2) (ci := 10) (b := mo) (As := [.int (nI r9), .int (nI a)]) (rest := []) ⟨hx, hb, hml, hown, hts⟩ hK hw (c_X10_next l D dT ah_7 H_5.size mo AR (upd (upd q 8 (X a - mx)) 9 (Y a - my)) g hm_8 np X Y hX nr RP RN hRg r9 a (by omega) (by omega) (by omega)) ko_X10_next km_X10_151 ki_X10_next ks_X10_next kn_X10 (by decide +kernel) rfl hm_8.1 rfl hl.1 rfl (by simp [Value.category]) dX10_ways_73 (by rw [hR]; exact ⟨rfl, rfl, Nat.le_of_ble_eq_true rfl, Nat.le_of_ble_eq_true rfl, by simp, by simp⟩) (fun r_16 ah_17 H_18 L_19 st_20 hp hw hst => ?_)
      obtain ⟨rfl, rfl⟩ := hp
      have hnx_21 := nxF_b (X := X) (Y := Y) (p := RP r9) (m := RN r9) (by omega) (RN r9) (a + 1) a (by omega) ⟨by omega, by omega⟩
      have hst : st_20 = [.int (nI (nxF X Y (RP r9) (RN r9) (RN r9) (a + 1) a))] := hst
      subst hst
      refine lv_goto (tgt := 80) hx hb dX10_ways_76 (by decide) ?_
      exact J_25 (nI (nxF X Y (RP r9) (RN r9) (RN r9) (a + 1) a)) ls _ _ (lv_sub hl [0, 1, 2, 3] rfl) hw (by rw [if_neg c_15])
  refine lv_icmp_ne (tgt := 64) hx hb dX10_ways_42 (by decide) (fun c_10 => ?_) (fun c_10 => ?_)
  · skip
    refine lv_iconst (v := 0) hx hb dX10_ways_64 (by decide) ?_
    exact J_14 0 ls (lv_sub hl [0, 1, 2] rfl) (by rw [if_neg c_10])
  · skip
    refine lv_aload_n hx hb dX10_ways_45 rfl (lv_at hl 0 rfl) ?_
    refine h_get (ci := 10) (v := .ref (AR 10)) (C := RX10) (T := TX10) (N := 26) hx hb hts kl_X10 hown hK hw hm_8.1 rfl 15 (by decide) (hts _ kf_X10_40) rfl rfl dX10_ways_46 ?_
    refine lv_iload_n hx hb dX10_ways_49 rfl (lv_at hl 2 rfl) ?_
    refine lv_iconst (v := 1) hx hb dX10_ways_50 (by decide) ?_
    refine lv_iadd hx hb dX10_ways_51 ?_
    refine lv_topi (fun t_11 et_11 => ?_)
    obtain rfl : t_11 = nI (a + 1) := et_11.trans (nI_c _ 1)
    refine h_iald hx hb hK hw (moA_a (n := 4096) (f := g 10) hm_8 10 (by decide) rfl rfl) (a + 1) rfl (by omega) (by omega) dX10_ways_52 ?_
    rw [show (g 10) (a + 1) = Y (a + 1) from (hX.2 _ (by omega)).2]
    refine lv_aload_n hx hb dX10_ways_53 rfl (lv_at hl 0 rfl) ?_
    refine h_get (ci := 10) (v := .int (q 7)) (C := RX10) (T := TX10) (N := 26) hx hb hts kl_X10 hown hK hw hm_8.1 rfl 20 (by decide) (hts _ kf_X10_117) rfl (congrArg (fun z => some (Value.int z)) (show (upd (upd q 8 (X a - mx)) 9 (Y a - my)) 7 = q 7 from ((upd_n (by decide)).trans (upd_n (by decide))))) dX10_ways_54 ?_
    rw [show q 7 = my from h7]
    refine lv_icmp_ne (tgt := 64) hx hb dX10_ways_57 (by decide) (fun c_12 => ?_) (fun c_12 => ?_)
    · skip
      refine lv_iconst (v := 0) hx hb dX10_ways_64 (by decide) ?_
      exact J_14 0 ls (lv_sub hl [0, 1, 2] rfl) (by rw [if_pos c_10, if_neg c_12])
    · skip
      refine lv_iconst (v := 1) hx hb dX10_ways_60 (by decide) ?_
      refine lv_goto (tgt := 65) hx hb dX10_ways_61 (by decide) ?_
      exact J_14 1 ls (lv_sub hl [0, 1, 2] rfl) (by rw [if_pos c_10, if_pos c_12])

set_option maxHeartbeats 4000000 in
set_option maxRecDepth 100000 in
theorem c_X10_crosses (l : Launch) (D : va_G) (dT : Nat → ClassId) (ah : hA) (sz : Nat) (mo : Nat) (AR : Nat → Nat) (q : Nat → Int32) (g : Nat → Nat → Int32) (hm : moA dT ah mo AR q g) (np : Nat) (X Y : Nat → Int32) (hX : moX np g X Y) (nr : Nat) (RP RN : Nat → Nat) (hRg : moR np nr g RP RN) (r9 a q9 b : Nat) (hr9 : r9 < nr) (ha0 : RP r9 ≤ a) (ha : a + 1 < RP r9 + RN r9) (hq9 : q9 < nr) (hb0 : RP q9 ≤ b) (hb1 : b + 1 < RP q9 + RN q9) (mx my : Int32) (h6 : q 6 = mx) (h7 : q 7 = my) : hMet l yX10_crosses cX10_crosses 9 (some .boolean) ({ frames := 4, cells := 0, slots := 0, locals := 91 }) D dT [.ref mo, .int (nI r9), .int (nI a), .int (nI q9), .int (nI b)] ah sz (fun r ah2 => ∃ q2, r = some (.int (bI (mCr X Y RP RN mx my r9 a q9 b))) ∧ ah2 = hup ah mo (.inr (10, moF q2 AR)) ∧ (∀ k9, k9 < 8 → q2 k9 = q k9)) 0 0 := by
  refine h_met (by decide) (Nat.le_of_ble_eq_true rfl) ?_
  intro p e s m below meth c ls R Q args hav hR hQ hB hl hsz hw
  obtain ⟨hx, hb, hml, hr, hts, hown, hlk, hin, hK⟩ := hB
  have hown : s.vm.findClass RX10 = some m.cls := hown
  have hl : lv_has ls 9 [(0, .ref mo), (1, .int (nI r9)), (2, .int (nI a)), (3, .int (nI q9)), (4, .int (nI b))] := hl
  have hnp := hX.1
  have hnr := hRg.1
  have hrb_r9 := (hRg.2 r9 (by omega)).2.2
  have hrb_q9 := (hRg.2 q9 (by omega)).2.2
  refine lv_aload_n hx hb dX10_crosses_0 rfl (lv_at hl 0 rfl) ?_
  refine lv_iload_n hx hb dX10_crosses_1 rfl (lv_at hl 3 rfl) ?_
  refine lv_iload hx hb dX10_crosses_2 (lv_at hl 4 rfl) ?_
  refine h_callV (n := 2) (ci := 10) (b := mo) (As := [.int (nI q9), .int (nI b)]) (rest := []) ⟨hx, hb, hml, hown, hts⟩ hK hw (c_X10_ways l D dT ah s.heap.size mo AR q g hm np X Y hX nr RP RN hRg q9 b (by omega) (by omega) (by omega) mx my h6 h7) ko_X10_ways km_X10_160 ki_X10_ways ks_X10_ways kn_X10 (by decide +kernel) rfl hm.1 rfl hl.1 rfl (by simp [Value.category]) dX10_crosses_4 (by rw [hR]; exact ⟨rfl, rfl, Nat.le_of_ble_eq_true rfl, Nat.le_of_ble_eq_true rfl, by simp, by simp⟩) (fun r_1 ah_2 H_3 L_4 st_5 hp hw hst => ?_)
  obtain ⟨q_6, rfl, eah_2, hlq_6, h8q_6, h9q_6, h10q_6, h11q_6⟩ := hp
  have hm_7 : moA dT ah_2 mo AR q_6 g := moA_q hm eah_2
  have hst : st_5 = [] := hst
  subst hst
  refine lv_aload_n hx hb dX10_crosses_7 rfl (lv_at hl 0 rfl) ?_
  refine h_get (ci := 10) (v := .int (q_6 8)) (C := RX10) (T := TX10) (N := 26) hx hb hts kl_X10 hown hK hw hm_7.1 rfl 22 (by decide) (hts _ kf_X10_145) rfl rfl dX10_crosses_8 ?_
  rw [show q_6 8 = (X b - mx) from h8q_6]
  refine lv_istore (lv' := [(5, .int (X b - mx)), (0, .ref mo), (1, .int (nI r9)), (2, .int (nI a)), (3, .int (nI q9)), (4, .int (nI b))]) hx hb dX10_crosses_11 hl (by decide) rfl (fun ls hl => ?_)
  refine lv_aload_n hx hb dX10_crosses_13 rfl (lv_at hl 1 rfl) ?_
  refine h_get (ci := 10) (v := .int (q_6 9)) (C := RX10) (T := TX10) (N := 26) hx hb hts kl_X10 hown hK hw hm_7.1 rfl 23 (by decide) (hts _ kf_X10_148) rfl rfl dX10_crosses_14 ?_
  rw [show q_6 9 = (Y b - my) from h9q_6]
  refine lv_istore (lv' := [(6, .int (Y b - my)), (5, .int (X b - mx)), (0, .ref mo), (1, .int (nI r9)), (2, .int (nI a)), (3, .int (nI q9)), (4, .int (nI b))]) hx hb dX10_crosses_17 hl (by decide) rfl (fun ls hl => ?_)
  refine lv_aload_n hx hb dX10_crosses_19 rfl (lv_at hl 2 rfl) ?_
  refine h_get (ci := 10) (v := .int (q_6 10)) (C := RX10) (T := TX10) (N := 26) hx hb hts kl_X10 hown hK hw hm_7.1 rfl 24 (by decide) (hts _ kf_X10_154) rfl rfl dX10_crosses_20 ?_
  rw [show q_6 10 = (X (mWb X Y (RP q9) (RN q9) mx my b + 1) - mx) from h10q_6]
  refine lv_istore (lv' := [(7, .int (X (mWb X Y (RP q9) (RN q9) mx my b + 1) - mx)), (6, .int (Y b - my)), (5, .int (X b - mx)), (0, .ref mo), (1, .int (nI r9)), (2, .int (nI a)), (3, .int (nI q9)), (4, .int (nI b))]) hx hb dX10_crosses_23 hl (by decide) rfl (fun ls hl => ?_)
  refine lv_aload_n hx hb dX10_crosses_25 rfl (lv_at hl 3 rfl) ?_
  refine h_get (ci := 10) (v := .int (q_6 11)) (C := RX10) (T := TX10) (N := 26) hx hb hts kl_X10 hown hK hw hm_7.1 rfl 25 (by decide) (hts _ kf_X10_157) rfl rfl dX10_crosses_26 ?_
  rw [show q_6 11 = (Y (mWb X Y (RP q9) (RN q9) mx my b + 1) - my) from h11q_6]
  refine lv_istore (lv' := [(8, .int (Y (mWb X Y (RP q9) (RN q9) mx my b + 1) - my)), (7, .int (X (mWb X Y (RP q9) (RN q9) mx my b + 1) - mx)), (6, .int (Y b - my)), (5, .int (X b - mx)), (0, .ref mo), (1, .int (nI r9)), (2, .int (nI a)), (3, .int (nI q9)), (4, .int (nI b))]) hx hb dX10_crosses_29 hl (by decide) rfl (fun ls hl => ?_)
  refine lv_aload_n hx hb dX10_crosses_31 rfl (lv_at hl 4 rfl) ?_
  refine lv_iload_n hx hb dX10_crosses_32 rfl (lv_at hl 5 rfl) ?_
  refine lv_iload_n hx hb dX10_crosses_33 rfl (lv_at hl 6 rfl) ?_
  refine h_callV (n := 2) (ci := 10) (b := mo) (As := [.int (nI r9), .int (nI a)]) (rest := []) ⟨hx, hb, hml, hown, hts⟩ hK hw (c_X10_ways l D dT ah_2 H_3.size mo AR q_6 g hm_7 np X Y hX nr RP RN hRg r9 a (by omega) (by omega) (by omega) mx my ((hlq_6 6 (by decide)).trans h6) ((hlq_6 7 (by decide)).trans h7)) ko_X10_ways km_X10_160 ki_X10_ways ks_X10_ways kn_X10 (by decide +kernel) rfl hm_7.1 rfl hl.1 rfl (by simp [Value.category]) dX10_crosses_34 (by rw [hR]; exact ⟨rfl, rfl, Nat.le_of_ble_eq_true rfl, Nat.le_of_ble_eq_true rfl, by simp, by simp⟩) (fun r_8 ah_9 H_10 L_11 st_12 hp hw hst => ?_)
  obtain ⟨q_13, rfl, eah_9, hlq_13, h8q_13, h9q_13, h10q_13, h11q_13⟩ := hp
  have hm_14 : moA dT ah_9 mo AR q_13 g := moA_q hm_7 eah_9
  have hst : st_12 = [] := hst
  subst hst
  refine lv_iload hx hb dX10_crosses_37 (lv_at hl 3 rfl) ?_
  refine lv_iload hx hb dX10_crosses_39 (lv_at hl 2 rfl) ?_
  refine lv_aload_n hx hb dX10_crosses_41 rfl (lv_at hl 4 rfl) ?_
  refine h_get (ci := 10) (v := .int (q_13 10)) (C := RX10) (T := TX10) (N := 26) hx hb hts kl_X10 hown hK hw hm_14.1 rfl 24 (by decide) (hts _ kf_X10_154) rfl rfl dX10_crosses_42 ?_
  rw [show q_13 10 = (X (mWb X Y (RP r9) (RN r9) mx my a + 1) - mx) from h10q_13]
  refine lv_aload_n hx hb dX10_crosses_45 rfl (lv_at hl 4 rfl) ?_
  refine h_get (ci := 10) (v := .int (q_13 11)) (C := RX10) (T := TX10) (N := 26) hx hb hts kl_X10 hown hK hw hm_14.1 rfl 25 (by decide) (hts _ kf_X10_157) rfl rfl dX10_crosses_46 ?_
  rw [show q_13 11 = (Y (mWb X Y (RP r9) (RN r9) mx my a + 1) - my) from h11q_13]
  refine lv_aload_n hx hb dX10_crosses_49 rfl (lv_at hl 4 rfl) ?_
  refine h_get (ci := 10) (v := .int (q_13 8)) (C := RX10) (T := TX10) (N := 26) hx hb hts kl_X10 hown hK hw hm_14.1 rfl 22 (by decide) (hts _ kf_X10_145) rfl rfl dX10_crosses_50 ?_
  rw [show q_13 8 = (X a - mx) from h8q_13]
  refine lv_aload_n hx hb dX10_crosses_53 rfl (lv_at hl 4 rfl) ?_
  refine h_get (ci := 10) (v := .int (q_13 9)) (C := RX10) (T := TX10) (N := 26) hx hb hts kl_X10 hown hK hw hm_14.1 rfl 23 (by decide) (hts _ kf_X10_148) rfl rfl dX10_crosses_54 ?_
  rw [show q_13 9 = (Y a - my) from h9q_13]
  refine h_callS (n := 6) (As := [.int (X b - mx), .int (Y b - my), .int (X (mWb X Y (RP r9) (RN r9) mx my a + 1) - mx), .int (Y (mWb X Y (RP r9) (RN r9) mx my a + 1) - my), .int (X a - mx), .int (Y a - my)]) (rest := []) ⟨hx, hb, hml, hown, hts⟩ hK hw (c_X10_isLeft l D dT ah_9 H_10.size (X b - mx) (Y b - my) (X (mWb X Y (RP r9) (RN r9) mx my a + 1) - mx) (Y (mWb X Y (RP r9) (RN r9) mx my a + 1) - my) (X a - mx) (Y a - my)) ko_X10_isLeft km_X10_164 kt_X10_isLeft kn_X10 (by decide +kernel) rfl hl.1 rfl (by simp [Value.category]) dX10_crosses_57 (by rw [hR]; exact ⟨rfl, rfl, Nat.le_of_ble_eq_true rfl, Nat.le_of_ble_eq_true rfl, by simp, by simp⟩) (fun r_15 ah_16 H_17 L_18 st_19 hp hw hst => ?_)
  obtain ⟨rfl, rfl⟩ := hp
  have hst : st_19 = [.int (bI (ilf (X b - mx) (Y b - my) (X (mWb X Y (RP r9) (RN r9) mx my a + 1) - mx) (Y (mWb X Y (RP r9) (RN r9) mx my a + 1) - my) (X a - mx) (Y a - my)))] := hst
  subst hst
  refine lv_iload hx hb dX10_crosses_60 (lv_at hl 1 rfl) ?_
  refine lv_iload hx hb dX10_crosses_62 (lv_at hl 0 rfl) ?_
  refine lv_aload_n hx hb dX10_crosses_64 rfl (lv_at hl 4 rfl) ?_
  refine h_get (ci := 10) (v := .int (q_13 10)) (C := RX10) (T := TX10) (N := 26) hx hb hts kl_X10 hown hK hw hm_14.1 rfl 24 (by decide) (hts _ kf_X10_154) rfl rfl dX10_crosses_65 ?_
  rw [show q_13 10 = (X (mWb X Y (RP r9) (RN r9) mx my a + 1) - mx) from h10q_13]
  refine lv_aload_n hx hb dX10_crosses_68 rfl (lv_at hl 4 rfl) ?_
  refine h_get (ci := 10) (v := .int (q_13 11)) (C := RX10) (T := TX10) (N := 26) hx hb hts kl_X10 hown hK hw hm_14.1 rfl 25 (by decide) (hts _ kf_X10_157) rfl rfl dX10_crosses_69 ?_
  rw [show q_13 11 = (Y (mWb X Y (RP r9) (RN r9) mx my a + 1) - my) from h11q_13]
  refine lv_aload_n hx hb dX10_crosses_72 rfl (lv_at hl 4 rfl) ?_
  refine h_get (ci := 10) (v := .int (q_13 8)) (C := RX10) (T := TX10) (N := 26) hx hb hts kl_X10 hown hK hw hm_14.1 rfl 22 (by decide) (hts _ kf_X10_145) rfl rfl dX10_crosses_73 ?_
  rw [show q_13 8 = (X a - mx) from h8q_13]
  refine lv_aload_n hx hb dX10_crosses_76 rfl (lv_at hl 4 rfl) ?_
  refine h_get (ci := 10) (v := .int (q_13 9)) (C := RX10) (T := TX10) (N := 26) hx hb hts kl_X10 hown hK hw hm_14.1 rfl 23 (by decide) (hts _ kf_X10_148) rfl rfl dX10_crosses_77 ?_
  rw [show q_13 9 = (Y a - my) from h9q_13]
  refine h_callS (n := 6) (As := [.int (X (mWb X Y (RP q9) (RN q9) mx my b + 1) - mx), .int (Y (mWb X Y (RP q9) (RN q9) mx my b + 1) - my), .int (X (mWb X Y (RP r9) (RN r9) mx my a + 1) - mx), .int (Y (mWb X Y (RP r9) (RN r9) mx my a + 1) - my), .int (X a - mx), .int (Y a - my)]) (rest := [.int (bI (ilf (X b - mx) (Y b - my) (X (mWb X Y (RP r9) (RN r9) mx my a + 1) - mx) (Y (mWb X Y (RP r9) (RN r9) mx my a + 1) - my) (X a - mx) (Y a - my)))]) ⟨hx, hb, hml, hown, hts⟩ hK hw (c_X10_isLeft l D dT ah_9 H_17.size (X (mWb X Y (RP q9) (RN q9) mx my b + 1) - mx) (Y (mWb X Y (RP q9) (RN q9) mx my b + 1) - my) (X (mWb X Y (RP r9) (RN r9) mx my a + 1) - mx) (Y (mWb X Y (RP r9) (RN r9) mx my a + 1) - my) (X a - mx) (Y a - my)) ko_X10_isLeft km_X10_164 kt_X10_isLeft kn_X10 (by decide +kernel) rfl hl.1 rfl (by simp [Value.category]) dX10_crosses_80 (by rw [hR]; exact ⟨rfl, rfl, Nat.le_of_ble_eq_true rfl, Nat.le_of_ble_eq_true rfl, by simp, by simp⟩) (fun r_20 ah_21 H_22 L_23 st_24 hp hw hst => ?_)
  obtain ⟨rfl, rfl⟩ := hp
  have hst : st_24 = [.int (bI (ilf (X (mWb X Y (RP q9) (RN q9) mx my b + 1) - mx) (Y (mWb X Y (RP q9) (RN q9) mx my b + 1) - my) (X (mWb X Y (RP r9) (RN r9) mx my a + 1) - mx) (Y (mWb X Y (RP r9) (RN r9) mx my a + 1) - my) (X a - mx) (Y a - my))), .int (bI (ilf (X b - mx) (Y b - my) (X (mWb X Y (RP r9) (RN r9) mx my a + 1) - mx) (Y (mWb X Y (RP r9) (RN r9) mx my a + 1) - my) (X a - mx) (Y a - my)))] := hst
  subst hst
  have J_27 : ∀ (v_26 : Int32) (ls : Array Slot), lv_has ls 9 [(8, .int (Y (mWb X Y (RP q9) (RN q9) mx my b + 1) - my)), (7, .int (X (mWb X Y (RP q9) (RN q9) mx my b + 1) - mx)), (6, .int (Y b - my)), (5, .int (X b - mx)), (0, .ref mo), (1, .int (nI r9)), (2, .int (nI a)), (3, .int (nI q9)), (4, .int (nI b))] → v_26 = (if bI (ilf (X b - mx) (Y b - my) (X (mWb X Y (RP r9) (RN r9) mx my a + 1) - mx) (Y (mWb X Y (RP r9) (RN r9) mx my a + 1) - my) (X a - mx) (Y a - my)) = bI (ilf (X (mWb X Y (RP q9) (RN q9) mx my b + 1) - mx) (Y (mWb X Y (RP q9) (RN q9) mx my b + 1) - my) (X (mWb X Y (RP r9) (RN r9) mx my a + 1) - mx) (Y (mWb X Y (RP r9) (RN r9) mx my a + 1) - my) (X a - mx) (Y a - my)) then 0 else 1) → W p l e R s m args below meth c H_22 L_23 (0 + 0 + 0 + 0 + 0) (0 + 0 + 0 + 0 + 0) Q (F0 m 91 ls [.int v_26]) := by
    intro v_26 ls hl ev_26
    have hv9 : v_26 = bI (mCr X Y RP RN mx my r9 a q9 b) := ev_26.trans mCr_e
    subst hv9
    rw [hQ]
    exact h_zret hx hb hr hlk hsz hw (by simp) (by simp) dX10_crosses_91 (bI_01 _) ⟨q_13, rfl, (by subst_vars; simp only [hup_hup]), fun k hk => (hlq_13 k hk).trans (hlq_6 k hk)⟩
  refine lv_icmp_eq (tgt := 90) hx hb dX10_crosses_83 (by decide) (fun c_25 => ?_) (fun c_25 => ?_)
  · skip
    refine lv_iconst (v := 0) hx hb dX10_crosses_90 (by decide) ?_
    exact J_27 0 ls (lv_sub hl [0, 1, 2, 3, 4, 5, 6, 7, 8] rfl) (by rw [if_pos c_25])
  · skip
    refine lv_iconst (v := 1) hx hb dX10_crosses_86 (by decide) ?_
    refine lv_goto (tgt := 91) hx hb dX10_crosses_87 (by decide) ?_
    exact J_27 1 ls (lv_sub hl [0, 1, 2, 3, 4, 5, 6, 7, 8] rfl) (by rw [if_neg c_25])

def mPair (X Y : Nat → Int32) (RP RN : Nat → Nat) (mx my : Int32) (r9 a q9 b : Nat) : Int32 := (if (mMeet X Y mx my a b).1 ≤ 1 then (if (mMeet X Y mx my a b).1 = 0 then 0 else (if r9 = q9 then (if nxF X Y (RP r9) (RN r9) (RN r9) (a + 1) a = b then (if mBeg X Y ((mMeet X Y mx my a b).2.1) ((mMeet X Y mx my a b).2.2) b = false then (if nxF X Y (RP r9) (RN r9) (RN r9) (b + 1) b = a then (if ((if mBeg X Y ((mMeet X Y mx my a b).2.1) ((mMeet X Y mx my a b).2.2) a = false then 0 else 1) : Int32) = 0 then 5 else 0) else 5) else 0) else (if nxF X Y (RP r9) (RN r9) (RN r9) (b + 1) b = a then (if ((if mBeg X Y ((mMeet X Y mx my a b).2.1) ((mMeet X Y mx my a b).2.2) a = false then 0 else 1) : Int32) = 0 then 5 else 0) else 5)) else (if mBeg X Y ((mMeet X Y mx my a b).2.1) ((mMeet X Y mx my a b).2.2) a = false then (if mBeg X Y ((mMeet X Y mx my a b).2.1) ((mMeet X Y mx my a b).2.2) b = false then (if mCr X Y RP RN ((mMeet X Y mx my a b).2.1) ((mMeet X Y mx my a b).2.2) r9 a q9 b = false then 0 else 4) else 0) else 0))) else (if (mMeet X Y mx my a b).1 = 3 then 3 else 4))
set_option maxHeartbeats 4000000 in
set_option maxRecDepth 100000 in
theorem c_X10_pair (l : Launch) (D : va_G) (dT : Nat → ClassId) (ah : hA) (sz : Nat) (mo : Nat) (AR : Nat → Nat) (q : Nat → Int32) (g : Nat → Nat → Int32) (hm : moA dT ah mo AR q g) (np : Nat) (X Y : Nat → Int32) (hX : moX np g X Y) (nr : Nat) (RP RN : Nat → Nat) (hRg : moR np nr g RP RN) (r9 a q9 b : Nat) (hr9 : r9 < nr) (ha0 : RP r9 ≤ a) (ha : a + 1 < RP r9 + RN r9) (hq9 : q9 < nr) (hb0 : RP q9 ≤ b) (hb1 : b + 1 < RP q9 + RN q9) : hMet l yX10_pair cX10_pair 7 (some .int) ({ frames := 5, cells := 0, slots := 0, locals := 119 }) D dT [.ref mo, .int (nI r9), .int (nI a), .int (nI q9), .int (nI b)] ah sz (fun r ah2 => ∃ q2, r = some (.int (mPair X Y RP RN (q 6) (q 7) r9 a q9 b)) ∧ ah2 = hup ah mo (.inr (10, moF q2 AR)) ∧ (∀ k9, k9 < 6 → q2 k9 = q k9)) 0 0 := by
  refine h_met (by decide) (Nat.le_of_ble_eq_true rfl) ?_
  intro p e s m below meth c ls R Q args hav hR hQ hB hl hsz hw
  obtain ⟨hx, hb, hml, hr, hts, hown, hlk, hin, hK⟩ := hB
  have hown : s.vm.findClass RX10 = some m.cls := hown
  have hl : lv_has ls 7 [(0, .ref mo), (1, .int (nI r9)), (2, .int (nI a)), (3, .int (nI q9)), (4, .int (nI b))] := hl
  have hnp := hX.1
  have hnr := hRg.1
  have hrb_r9 := (hRg.2 r9 (by omega)).2.2
  have hrb_q9 := (hRg.2 q9 (by omega)).2.2
  refine lv_aload_n hx hb dX10_pair_0 rfl (lv_at hl 0 rfl) ?_
  refine lv_iload_n hx hb dX10_pair_1 rfl (lv_at hl 2 rfl) ?_
  refine lv_iload hx hb dX10_pair_2 (lv_at hl 4 rfl) ?_
  refine h_callV (n := 2) (ci := 10) (b := mo) (As := [.int (nI a), .int (nI b)]) (rest := []) ⟨hx, hb, hml, hown, hts⟩ hK hw (c_X10_meet l D dT ah s.heap.size mo AR q g hm np X Y hX a b (by omega) (by omega)) ko_X10_meet km_X10_168 ki_X10_meet ks_X10_meet kn_X10 (by decide +kernel) rfl hm.1 rfl hl.1 rfl (by simp [Value.category]) dX10_pair_4 (by rw [hR]; exact ⟨rfl, rfl, Nat.le_of_ble_eq_true rfl, Nat.le_of_ble_eq_true rfl, by simp, by simp⟩) (fun r_1 ah_2 H_3 L_4 st_5 hp hw hst => ?_)
  obtain ⟨rfl, eah_2⟩ := hp
  have hm_6 : moA dT ah_2 mo AR (upd (upd q 6 ((mMeet X Y (q 6) (q 7) a b).2.1)) 7 ((mMeet X Y (q 6) (q 7) a b).2.2)) g := moA_q hm eah_2
  have hst : st_5 = [.int ((mMeet X Y (q 6) (q 7) a b).1)] := hst
  subst hst
  refine lv_istore (lv' := [(5, .int ((mMeet X Y (q 6) (q 7) a b).1)), (0, .ref mo), (1, .int (nI r9)), (2, .int (nI a)), (3, .int (nI q9)), (4, .int (nI b))]) hx hb dX10_pair_7 hl (by decide) rfl (fun ls hl => ?_)
  refine lv_iload hx hb dX10_pair_9 (lv_at hl 0 rfl) ?_
  refine lv_iconst (v := 1) hx hb dX10_pair_11 (by decide) ?_
  refine lv_icmp_le (tgt := 27) hx hb dX10_pair_12 (by decide) (fun c_7 => ?_) (fun c_7 => ?_)
  · skip
    refine lv_iload hx hb dX10_pair_27 (lv_at hl 0 rfl) ?_
    refine lv_if_ne (tgt := 34) hx hb dX10_pair_29 (by decide) (fun c_8 => ?_) (fun c_8 => ?_)
    · skip
      refine lv_iload_n hx hb dX10_pair_34 rfl (lv_at hl 2 rfl) ?_
      refine lv_iload_n hx hb dX10_pair_35 rfl (lv_at hl 4 rfl) ?_
      refine lv_icmp_eq (tgt := 74) hx hb dX10_pair_36 (by decide) (fun c_9 => ?_) (fun c_9 => ?_)
      · skip
        have c_9 : r9 = q9 := (nI_eqx (by rfl) (by rfl) (by omega) (by omega)).mp c_9
        have hRPe : RP r9 = RP q9 := congrArg RP c_9
        have hRNe : RN r9 = RN q9 := congrArg RN c_9
        refine lv_aload_n hx hb dX10_pair_74 rfl (lv_at hl 1 rfl) ?_
        refine lv_iload_n hx hb dX10_pair_75 rfl (lv_at hl 2 rfl) ?_
        refine lv_iload_n hx hb dX10_pair_76 rfl (lv_at hl 3 rfl) ?_
        refine h_callV (n := 2) (ci := 10) (b := mo) (As := [.int (nI r9), .int (nI a)]) (rest := []) ⟨hx, hb, hml, hown, hts⟩ hK hw (c_X10_next l D dT ah_2 H_3.size mo AR (upd (upd q 6 ((mMeet X Y (q 6) (q 7) a b).2.1)) 7 ((mMeet X Y (q 6) (q 7) a b).2.2)) g hm_6 np X Y hX nr RP RN hRg r9 a (by omega) (by omega) (by omega)) ko_X10_next km_X10_151 ki_X10_next ks_X10_next kn_X10 (by decide +kernel) rfl hm_6.1 rfl hl.1 rfl (by simp [Value.category]) dX10_pair_77 (by rw [hR]; exact ⟨rfl, rfl, Nat.le_of_ble_eq_true rfl, Nat.le_of_ble_eq_true rfl, by simp, by simp⟩) (fun r_10 ah_11 H_12 L_13 st_14 hp hw hst => ?_)
        obtain ⟨rfl, rfl⟩ := hp
        have hnx_15 := nxF_b (X := X) (Y := Y) (p := RP r9) (m := RN r9) (by omega) (RN r9) (a + 1) a (by omega) ⟨by omega, by omega⟩
        have hst : st_14 = [.int (nI (nxF X Y (RP r9) (RN r9) (RN r9) (a + 1) a))] := hst
        subst hst
        refine lv_iload hx hb dX10_pair_80 (lv_at hl 5 rfl) ?_
        refine lv_icmp_ne (tgt := 94) hx hb dX10_pair_82 (by decide) (fun c_16 => ?_) (fun c_16 => ?_)
        · skip
          have c_16 : ¬ (nxF X Y (RP r9) (RN r9) (RN r9) (a + 1) a = b) := (not_congr (nI_eqx (by rfl) (by rfl) (by omega) (by omega))).mp c_16
          refine lv_aload_n hx hb dX10_pair_94 rfl (lv_at hl 1 rfl) ?_
          refine lv_iload_n hx hb dX10_pair_95 rfl (lv_at hl 2 rfl) ?_
          refine lv_iload hx hb dX10_pair_96 (lv_at hl 5 rfl) ?_
          refine h_callV (n := 2) (ci := 10) (b := mo) (As := [.int (nI r9), .int (nI b)]) (rest := []) ⟨hx, hb, hml, hown, hts⟩ hK hw (c_X10_next l D dT ah_2 H_12.size mo AR (upd (upd q 6 ((mMeet X Y (q 6) (q 7) a b).2.1)) 7 ((mMeet X Y (q 6) (q 7) a b).2.2)) g hm_6 np X Y hX nr RP RN hRg r9 b (by omega) (by omega) (by omega)) ko_X10_next km_X10_151 ki_X10_next ks_X10_next kn_X10 (by decide +kernel) rfl hm_6.1 rfl hl.1 rfl (by simp [Value.category]) dX10_pair_98 (by rw [hR]; exact ⟨rfl, rfl, Nat.le_of_ble_eq_true rfl, Nat.le_of_ble_eq_true rfl, by simp, by simp⟩) (fun r_17 ah_18 H_19 L_20 st_21 hp hw hst => ?_)
          obtain ⟨rfl, rfl⟩ := hp
          have hnx_22 := nxF_b (X := X) (Y := Y) (p := RP r9) (m := RN r9) (by omega) (RN r9) (b + 1) b (by omega) ⟨by omega, by omega⟩
          have hst : st_21 = [.int (nI (nxF X Y (RP r9) (RN r9) (RN r9) (b + 1) b))] := hst
          subst hst
          refine lv_iload_n hx hb dX10_pair_101 rfl (lv_at hl 3 rfl) ?_
          refine lv_icmp_ne (tgt := 117) hx hb dX10_pair_102 (by decide) (fun c_23 => ?_) (fun c_23 => ?_)
          · skip
            have c_23 : ¬ (nxF X Y (RP r9) (RN r9) (RN r9) (b + 1) b = a) := (not_congr (nI_eqx (by rfl) (by rfl) (by omega) (by omega))).mp c_23
            refine lv_iconst (v := 0) hx hb dX10_pair_117 (by decide) ?_
            refine lv_istore (lv' := [(6, .int 0), (5, .int ((mMeet X Y (q 6) (q 7) a b).1)), (0, .ref mo), (1, .int (nI r9)), (2, .int (nI a)), (3, .int (nI q9)), (4, .int (nI b))]) hx hb dX10_pair_118 hl (by decide) rfl (fun ls hl => ?_)
            refine lv_iload hx hb dX10_pair_120 (lv_at hl 0 rfl) ?_
            refine lv_if_eq (tgt := 129) hx hb dX10_pair_122 (by decide) (fun c_24 => ?_) (fun c_24 => ?_)
            · skip
              refine lv_iconst (v := 5) hx hb dX10_pair_129 (by decide) ?_
              have hv : 5 = mPair X Y RP RN (q 6) (q 7) r9 a q9 b := by
                unfold mPair
                all_goals rw [if_pos c_7, if_neg c_8, if_pos c_9, if_neg c_16, if_neg c_23]
              rw [hQ]
              exact h_iret hx hb hr hlk hsz hw (by simp) (by simp) dX10_pair_130 ⟨(upd (upd q 6 ((mMeet X Y (q 6) (q 7) a b).2.1)) 7 ((mMeet X Y (q 6) (q 7) a b).2.2)), congrArg (fun z => some (Value.int z)) hv, (by subst_vars; simp only [hup_hup]), fun k hk => by rw [upd_n (by omega), upd_n (by omega)]⟩
            · exact absurd c_24 (by decide)
          · skip
            have c_23 : nxF X Y (RP r9) (RN r9) (RN r9) (b + 1) b = a := (nI_eqx (by rfl) (by rfl) (by omega) (by omega)).mp c_23
            refine lv_aload_n hx hb dX10_pair_105 rfl (lv_at hl 1 rfl) ?_
            refine lv_iload_n hx hb dX10_pair_106 rfl (lv_at hl 3 rfl) ?_
            refine h_callV (n := 1) (ci := 10) (b := mo) (As := [.int (nI a)]) (rest := []) ⟨hx, hb, hml, hown, hts⟩ hK hw (c_X10_begins l D dT ah_2 H_19.size mo AR (upd (upd q 6 ((mMeet X Y (q 6) (q 7) a b).2.1)) 7 ((mMeet X Y (q 6) (q 7) a b).2.2)) g hm_6 np X Y hX a (by omega)) ko_X10_begins km_X10_171 ki_X10_begins ks_X10_begins kn_X10 (by decide +kernel) rfl hm_6.1 rfl hl.1 rfl (by simp [Value.category]) dX10_pair_107 (by rw [hR]; exact ⟨rfl, rfl, Nat.le_of_ble_eq_true rfl, Nat.le_of_ble_eq_true rfl, by simp, by simp⟩) (fun r_25 ah_26 H_27 L_28 st_29 hp hw hst => ?_)
            obtain ⟨hr_30, rfl⟩ := hp
            rw [show mBeg X Y ((upd (upd q 6 ((mMeet X Y (q 6) (q 7) a b).2.1)) 7 ((mMeet X Y (q 6) (q 7) a b).2.2)) 6) ((upd (upd q 6 ((mMeet X Y (q 6) (q 7) a b).2.1)) 7 ((mMeet X Y (q 6) (q 7) a b).2.2)) 7) a = mBeg X Y ((mMeet X Y (q 6) (q 7) a b).2.1) ((mMeet X Y (q 6) (q 7) a b).2.2) a from (by rw [show (upd (upd q 6 ((mMeet X Y (q 6) (q 7) a b).2.1)) 7 ((mMeet X Y (q 6) (q 7) a b).2.2)) 6 = (mMeet X Y (q 6) (q 7) a b).2.1 from ((upd_n (by decide)).trans upd_e), show (upd (upd q 6 ((mMeet X Y (q 6) (q 7) a b).2.1)) 7 ((mMeet X Y (q 6) (q 7) a b).2.2)) 7 = (mMeet X Y (q 6) (q 7) a b).2.2 from upd_e])] at hr_30
            subst hr_30
            have hst : st_29 = [.int (bI (mBeg X Y ((mMeet X Y (q 6) (q 7) a b).2.1) ((mMeet X Y (q 6) (q 7) a b).2.2) a))] := hst
            subst hst
            have J_33 : ∀ (v_32 : Int32) (ls : Array Slot), lv_has ls 7 [(5, .int ((mMeet X Y (q 6) (q 7) a b).1)), (0, .ref mo), (1, .int (nI r9)), (2, .int (nI a)), (3, .int (nI q9)), (4, .int (nI b))] → v_32 = (if mBeg X Y ((mMeet X Y (q 6) (q 7) a b).2.1) ((mMeet X Y (q 6) (q 7) a b).2.2) a = false then 0 else 1) → W p l e R s m args below meth c H_27 L_28 (0 + 0 + 0 + 0 + 0) (0 + 0 + 0 + 0 + 0) Q (F0 m 118 ls [.int v_32]) := by
              intro v_32 ls hl ev_32
              refine lv_istore (lv' := [(6, .int v_32), (5, .int ((mMeet X Y (q 6) (q 7) a b).1)), (0, .ref mo), (1, .int (nI r9)), (2, .int (nI a)), (3, .int (nI q9)), (4, .int (nI b))]) hx hb dX10_pair_118 hl (by decide) rfl (fun ls hl => ?_)
              refine lv_iload hx hb dX10_pair_120 (lv_at hl 0 rfl) ?_
              have J_36 : ∀ (v_35 : Int32) (ls : Array Slot), lv_has ls 7 [(6, .int v_32), (5, .int ((mMeet X Y (q 6) (q 7) a b).1)), (0, .ref mo), (1, .int (nI r9)), (2, .int (nI a)), (3, .int (nI q9)), (4, .int (nI b))] → v_35 = (if v_32 = 0 then 5 else 0) → W p l e R s m args below meth c H_27 L_28 (0 + 0 + 0 + 0 + 0) (0 + 0 + 0 + 0 + 0) Q (F0 m 130 ls [.int v_35]) := by
                intro v_35 ls hl ev_35
                have hv : v_35 = mPair X Y RP RN (q 6) (q 7) r9 a q9 b := by
                  subst ev_35
                  subst ev_32
                  unfold mPair
                  all_goals rw [if_pos c_7, if_neg c_8, if_pos c_9, if_neg c_16, if_pos c_23]
                rw [hQ]
                exact h_iret hx hb hr hlk hsz hw (by simp) (by simp) dX10_pair_130 ⟨(upd (upd q 6 ((mMeet X Y (q 6) (q 7) a b).2.1)) 7 ((mMeet X Y (q 6) (q 7) a b).2.2)), congrArg (fun z => some (Value.int z)) hv, (by subst_vars; simp only [hup_hup]), fun k hk => by rw [upd_n (by omega), upd_n (by omega)]⟩
              refine lv_if_eq (tgt := 129) hx hb dX10_pair_122 (by decide) (fun c_34 => ?_) (fun c_34 => ?_)
              · skip
                refine lv_iconst (v := 5) hx hb dX10_pair_129 (by decide) ?_
                exact J_36 5 ls (lv_sub hl [0, 1, 2, 3, 4, 5, 6] rfl) (by rw [if_pos c_34])
              · skip
                refine lv_iconst (v := 0) hx hb dX10_pair_125 (by decide) ?_
                refine lv_goto (tgt := 130) hx hb dX10_pair_126 (by decide) ?_
                exact J_36 0 ls (lv_sub hl [0, 1, 2, 3, 4, 5, 6] rfl) (by rw [if_neg c_34])
            refine lv_if_eq (tgt := 117) hx hb dX10_pair_110 (by decide) (fun c_31 => ?_) (fun c_31 => ?_)
            · skip
              have c_31 : mBeg X Y ((mMeet X Y (q 6) (q 7) a b).2.1) ((mMeet X Y (q 6) (q 7) a b).2.2) a = false := bI_0.mp c_31
              refine lv_iconst (v := 0) hx hb dX10_pair_117 (by decide) ?_
              exact J_33 0 ls (lv_sub hl [0, 1, 2, 3, 4, 5] rfl) (by rw [if_pos c_31])
            · skip
              have c_31 : ¬ (mBeg X Y ((mMeet X Y (q 6) (q 7) a b).2.1) ((mMeet X Y (q 6) (q 7) a b).2.2) a = false) := (not_congr bI_0).mp c_31
              refine lv_iconst (v := 1) hx hb dX10_pair_113 (by decide) ?_
              refine lv_goto (tgt := 118) hx hb dX10_pair_114 (by decide) ?_
              exact J_33 1 ls (lv_sub hl [0, 1, 2, 3, 4, 5] rfl) (by rw [if_neg c_31])
        · skip
          have c_16 : nxF X Y (RP r9) (RN r9) (RN r9) (a + 1) a = b := (nI_eqx (by rfl) (by rfl) (by omega) (by omega)).mp c_16
          refine lv_aload_n hx hb dX10_pair_85 rfl (lv_at hl 1 rfl) ?_
          refine lv_iload hx hb dX10_pair_86 (lv_at hl 5 rfl) ?_
          refine h_callV (n := 1) (ci := 10) (b := mo) (As := [.int (nI b)]) (rest := []) ⟨hx, hb, hml, hown, hts⟩ hK hw (c_X10_begins l D dT ah_2 H_12.size mo AR (upd (upd q 6 ((mMeet X Y (q 6) (q 7) a b).2.1)) 7 ((mMeet X Y (q 6) (q 7) a b).2.2)) g hm_6 np X Y hX b (by omega)) ko_X10_begins km_X10_171 ki_X10_begins ks_X10_begins kn_X10 (by decide +kernel) rfl hm_6.1 rfl hl.1 rfl (by simp [Value.category]) dX10_pair_88 (by rw [hR]; exact ⟨rfl, rfl, Nat.le_of_ble_eq_true rfl, Nat.le_of_ble_eq_true rfl, by simp, by simp⟩) (fun r_37 ah_38 H_39 L_40 st_41 hp hw hst => ?_)
          obtain ⟨hr_42, rfl⟩ := hp
          rw [show mBeg X Y ((upd (upd q 6 ((mMeet X Y (q 6) (q 7) a b).2.1)) 7 ((mMeet X Y (q 6) (q 7) a b).2.2)) 6) ((upd (upd q 6 ((mMeet X Y (q 6) (q 7) a b).2.1)) 7 ((mMeet X Y (q 6) (q 7) a b).2.2)) 7) b = mBeg X Y ((mMeet X Y (q 6) (q 7) a b).2.1) ((mMeet X Y (q 6) (q 7) a b).2.2) b from (by rw [show (upd (upd q 6 ((mMeet X Y (q 6) (q 7) a b).2.1)) 7 ((mMeet X Y (q 6) (q 7) a b).2.2)) 6 = (mMeet X Y (q 6) (q 7) a b).2.1 from ((upd_n (by decide)).trans upd_e), show (upd (upd q 6 ((mMeet X Y (q 6) (q 7) a b).2.1)) 7 ((mMeet X Y (q 6) (q 7) a b).2.2)) 7 = (mMeet X Y (q 6) (q 7) a b).2.2 from upd_e])] at hr_42
          subst hr_42
          have hst : st_41 = [.int (bI (mBeg X Y ((mMeet X Y (q 6) (q 7) a b).2.1) ((mMeet X Y (q 6) (q 7) a b).2.2) b))] := hst
          subst hst
          refine lv_if_ne (tgt := 113) hx hb dX10_pair_91 (by decide) (fun c_43 => ?_) (fun c_43 => ?_)
          · skip
            have c_43 : ¬ (mBeg X Y ((mMeet X Y (q 6) (q 7) a b).2.1) ((mMeet X Y (q 6) (q 7) a b).2.2) b = false) := (not_congr bI_0).mp c_43
            refine lv_iconst (v := 1) hx hb dX10_pair_113 (by decide) ?_
            refine lv_goto (tgt := 118) hx hb dX10_pair_114 (by decide) ?_
            refine lv_istore (lv' := [(6, .int 1), (5, .int ((mMeet X Y (q 6) (q 7) a b).1)), (0, .ref mo), (1, .int (nI r9)), (2, .int (nI a)), (3, .int (nI q9)), (4, .int (nI b))]) hx hb dX10_pair_118 hl (by decide) rfl (fun ls hl => ?_)
            refine lv_iload hx hb dX10_pair_120 (lv_at hl 0 rfl) ?_
            refine lv_if_eq (tgt := 129) hx hb dX10_pair_122 (by decide) (fun c_44 => ?_) (fun c_44 => ?_)
            · exact absurd c_44 (by decide)
            · skip
              refine lv_iconst (v := 0) hx hb dX10_pair_125 (by decide) ?_
              refine lv_goto (tgt := 130) hx hb dX10_pair_126 (by decide) ?_
              have hv : 0 = mPair X Y RP RN (q 6) (q 7) r9 a q9 b := by
                unfold mPair
                all_goals rw [if_pos c_7, if_neg c_8, if_pos c_9, if_pos c_16, if_neg c_43]
              rw [hQ]
              exact h_iret hx hb hr hlk hsz hw (by simp) (by simp) dX10_pair_130 ⟨(upd (upd q 6 ((mMeet X Y (q 6) (q 7) a b).2.1)) 7 ((mMeet X Y (q 6) (q 7) a b).2.2)), congrArg (fun z => some (Value.int z)) hv, (by subst_vars; simp only [hup_hup]), fun k hk => by rw [upd_n (by omega), upd_n (by omega)]⟩
          · skip
            have c_43 : mBeg X Y ((mMeet X Y (q 6) (q 7) a b).2.1) ((mMeet X Y (q 6) (q 7) a b).2.2) b = false := bI_0.mp c_43
            refine lv_aload_n hx hb dX10_pair_94 rfl (lv_at hl 1 rfl) ?_
            refine lv_iload_n hx hb dX10_pair_95 rfl (lv_at hl 2 rfl) ?_
            refine lv_iload hx hb dX10_pair_96 (lv_at hl 5 rfl) ?_
            refine h_callV (n := 2) (ci := 10) (b := mo) (As := [.int (nI r9), .int (nI b)]) (rest := []) ⟨hx, hb, hml, hown, hts⟩ hK hw (c_X10_next l D dT ah_2 H_39.size mo AR (upd (upd q 6 ((mMeet X Y (q 6) (q 7) a b).2.1)) 7 ((mMeet X Y (q 6) (q 7) a b).2.2)) g hm_6 np X Y hX nr RP RN hRg r9 b (by omega) (by omega) (by omega)) ko_X10_next km_X10_151 ki_X10_next ks_X10_next kn_X10 (by decide +kernel) rfl hm_6.1 rfl hl.1 rfl (by simp [Value.category]) dX10_pair_98 (by rw [hR]; exact ⟨rfl, rfl, Nat.le_of_ble_eq_true rfl, Nat.le_of_ble_eq_true rfl, by simp, by simp⟩) (fun r_45 ah_46 H_47 L_48 st_49 hp hw hst => ?_)
            obtain ⟨rfl, rfl⟩ := hp
            have hnx_50 := nxF_b (X := X) (Y := Y) (p := RP r9) (m := RN r9) (by omega) (RN r9) (b + 1) b (by omega) ⟨by omega, by omega⟩
            have hst : st_49 = [.int (nI (nxF X Y (RP r9) (RN r9) (RN r9) (b + 1) b))] := hst
            subst hst
            refine lv_iload_n hx hb dX10_pair_101 rfl (lv_at hl 3 rfl) ?_
            refine lv_icmp_ne (tgt := 117) hx hb dX10_pair_102 (by decide) (fun c_51 => ?_) (fun c_51 => ?_)
            · skip
              have c_51 : ¬ (nxF X Y (RP r9) (RN r9) (RN r9) (b + 1) b = a) := (not_congr (nI_eqx (by rfl) (by rfl) (by omega) (by omega))).mp c_51
              refine lv_iconst (v := 0) hx hb dX10_pair_117 (by decide) ?_
              refine lv_istore (lv' := [(6, .int 0), (5, .int ((mMeet X Y (q 6) (q 7) a b).1)), (0, .ref mo), (1, .int (nI r9)), (2, .int (nI a)), (3, .int (nI q9)), (4, .int (nI b))]) hx hb dX10_pair_118 hl (by decide) rfl (fun ls hl => ?_)
              refine lv_iload hx hb dX10_pair_120 (lv_at hl 0 rfl) ?_
              refine lv_if_eq (tgt := 129) hx hb dX10_pair_122 (by decide) (fun c_52 => ?_) (fun c_52 => ?_)
              · skip
                refine lv_iconst (v := 5) hx hb dX10_pair_129 (by decide) ?_
                have hv : 5 = mPair X Y RP RN (q 6) (q 7) r9 a q9 b := by
                  unfold mPair
                  all_goals rw [if_pos c_7, if_neg c_8, if_pos c_9, if_pos c_16, if_pos c_43, if_neg c_51]
                rw [hQ]
                exact h_iret hx hb hr hlk hsz hw (by simp) (by simp) dX10_pair_130 ⟨(upd (upd q 6 ((mMeet X Y (q 6) (q 7) a b).2.1)) 7 ((mMeet X Y (q 6) (q 7) a b).2.2)), congrArg (fun z => some (Value.int z)) hv, (by subst_vars; simp only [hup_hup]), fun k hk => by rw [upd_n (by omega), upd_n (by omega)]⟩
              · exact absurd c_52 (by decide)
            · skip
              have c_51 : nxF X Y (RP r9) (RN r9) (RN r9) (b + 1) b = a := (nI_eqx (by rfl) (by rfl) (by omega) (by omega)).mp c_51
              refine lv_aload_n hx hb dX10_pair_105 rfl (lv_at hl 1 rfl) ?_
              refine lv_iload_n hx hb dX10_pair_106 rfl (lv_at hl 3 rfl) ?_
              refine h_callV (n := 1) (ci := 10) (b := mo) (As := [.int (nI a)]) (rest := []) ⟨hx, hb, hml, hown, hts⟩ hK hw (c_X10_begins l D dT ah_2 H_47.size mo AR (upd (upd q 6 ((mMeet X Y (q 6) (q 7) a b).2.1)) 7 ((mMeet X Y (q 6) (q 7) a b).2.2)) g hm_6 np X Y hX a (by omega)) ko_X10_begins km_X10_171 ki_X10_begins ks_X10_begins kn_X10 (by decide +kernel) rfl hm_6.1 rfl hl.1 rfl (by simp [Value.category]) dX10_pair_107 (by rw [hR]; exact ⟨rfl, rfl, Nat.le_of_ble_eq_true rfl, Nat.le_of_ble_eq_true rfl, by simp, by simp⟩) (fun r_53 ah_54 H_55 L_56 st_57 hp hw hst => ?_)
              obtain ⟨hr_58, rfl⟩ := hp
              rw [show mBeg X Y ((upd (upd q 6 ((mMeet X Y (q 6) (q 7) a b).2.1)) 7 ((mMeet X Y (q 6) (q 7) a b).2.2)) 6) ((upd (upd q 6 ((mMeet X Y (q 6) (q 7) a b).2.1)) 7 ((mMeet X Y (q 6) (q 7) a b).2.2)) 7) a = mBeg X Y ((mMeet X Y (q 6) (q 7) a b).2.1) ((mMeet X Y (q 6) (q 7) a b).2.2) a from (by rw [show (upd (upd q 6 ((mMeet X Y (q 6) (q 7) a b).2.1)) 7 ((mMeet X Y (q 6) (q 7) a b).2.2)) 6 = (mMeet X Y (q 6) (q 7) a b).2.1 from ((upd_n (by decide)).trans upd_e), show (upd (upd q 6 ((mMeet X Y (q 6) (q 7) a b).2.1)) 7 ((mMeet X Y (q 6) (q 7) a b).2.2)) 7 = (mMeet X Y (q 6) (q 7) a b).2.2 from upd_e])] at hr_58
              subst hr_58
              have hst : st_57 = [.int (bI (mBeg X Y ((mMeet X Y (q 6) (q 7) a b).2.1) ((mMeet X Y (q 6) (q 7) a b).2.2) a))] := hst
              subst hst
              have J_61 : ∀ (v_60 : Int32) (ls : Array Slot), lv_has ls 7 [(5, .int ((mMeet X Y (q 6) (q 7) a b).1)), (0, .ref mo), (1, .int (nI r9)), (2, .int (nI a)), (3, .int (nI q9)), (4, .int (nI b))] → v_60 = (if mBeg X Y ((mMeet X Y (q 6) (q 7) a b).2.1) ((mMeet X Y (q 6) (q 7) a b).2.2) a = false then 0 else 1) → W p l e R s m args below meth c H_55 L_56 (0 + 0 + 0 + 0 + 0 + 0) (0 + 0 + 0 + 0 + 0 + 0) Q (F0 m 118 ls [.int v_60]) := by
                intro v_60 ls hl ev_60
                refine lv_istore (lv' := [(6, .int v_60), (5, .int ((mMeet X Y (q 6) (q 7) a b).1)), (0, .ref mo), (1, .int (nI r9)), (2, .int (nI a)), (3, .int (nI q9)), (4, .int (nI b))]) hx hb dX10_pair_118 hl (by decide) rfl (fun ls hl => ?_)
                refine lv_iload hx hb dX10_pair_120 (lv_at hl 0 rfl) ?_
                have J_64 : ∀ (v_63 : Int32) (ls : Array Slot), lv_has ls 7 [(6, .int v_60), (5, .int ((mMeet X Y (q 6) (q 7) a b).1)), (0, .ref mo), (1, .int (nI r9)), (2, .int (nI a)), (3, .int (nI q9)), (4, .int (nI b))] → v_63 = (if v_60 = 0 then 5 else 0) → W p l e R s m args below meth c H_55 L_56 (0 + 0 + 0 + 0 + 0 + 0) (0 + 0 + 0 + 0 + 0 + 0) Q (F0 m 130 ls [.int v_63]) := by
                  intro v_63 ls hl ev_63
                  have hv : v_63 = mPair X Y RP RN (q 6) (q 7) r9 a q9 b := by
                    subst ev_63
                    subst ev_60
                    unfold mPair
                    all_goals rw [if_pos c_7, if_neg c_8, if_pos c_9, if_pos c_16, if_pos c_43, if_pos c_51]
                  rw [hQ]
                  exact h_iret hx hb hr hlk hsz hw (by simp) (by simp) dX10_pair_130 ⟨(upd (upd q 6 ((mMeet X Y (q 6) (q 7) a b).2.1)) 7 ((mMeet X Y (q 6) (q 7) a b).2.2)), congrArg (fun z => some (Value.int z)) hv, (by subst_vars; simp only [hup_hup]), fun k hk => by rw [upd_n (by omega), upd_n (by omega)]⟩
                refine lv_if_eq (tgt := 129) hx hb dX10_pair_122 (by decide) (fun c_62 => ?_) (fun c_62 => ?_)
                · skip
                  refine lv_iconst (v := 5) hx hb dX10_pair_129 (by decide) ?_
                  exact J_64 5 ls (lv_sub hl [0, 1, 2, 3, 4, 5, 6] rfl) (by rw [if_pos c_62])
                · skip
                  refine lv_iconst (v := 0) hx hb dX10_pair_125 (by decide) ?_
                  refine lv_goto (tgt := 130) hx hb dX10_pair_126 (by decide) ?_
                  exact J_64 0 ls (lv_sub hl [0, 1, 2, 3, 4, 5, 6] rfl) (by rw [if_neg c_62])
              refine lv_if_eq (tgt := 117) hx hb dX10_pair_110 (by decide) (fun c_59 => ?_) (fun c_59 => ?_)
              · skip
                have c_59 : mBeg X Y ((mMeet X Y (q 6) (q 7) a b).2.1) ((mMeet X Y (q 6) (q 7) a b).2.2) a = false := bI_0.mp c_59
                refine lv_iconst (v := 0) hx hb dX10_pair_117 (by decide) ?_
                exact J_61 0 ls (lv_sub hl [0, 1, 2, 3, 4, 5] rfl) (by rw [if_pos c_59])
              · skip
                have c_59 : ¬ (mBeg X Y ((mMeet X Y (q 6) (q 7) a b).2.1) ((mMeet X Y (q 6) (q 7) a b).2.2) a = false) := (not_congr bI_0).mp c_59
                refine lv_iconst (v := 1) hx hb dX10_pair_113 (by decide) ?_
                refine lv_goto (tgt := 118) hx hb dX10_pair_114 (by decide) ?_
                exact J_61 1 ls (lv_sub hl [0, 1, 2, 3, 4, 5] rfl) (by rw [if_neg c_59])
      · skip
        have c_9 : ¬ (r9 = q9) := (not_congr (nI_eqx (by rfl) (by rfl) (by omega) (by omega))).mp c_9
        refine lv_aload_n hx hb dX10_pair_39 rfl (lv_at hl 1 rfl) ?_
        refine lv_iload_n hx hb dX10_pair_40 rfl (lv_at hl 3 rfl) ?_
        refine h_callV (n := 1) (ci := 10) (b := mo) (As := [.int (nI a)]) (rest := []) ⟨hx, hb, hml, hown, hts⟩ hK hw (c_X10_begins l D dT ah_2 H_3.size mo AR (upd (upd q 6 ((mMeet X Y (q 6) (q 7) a b).2.1)) 7 ((mMeet X Y (q 6) (q 7) a b).2.2)) g hm_6 np X Y hX a (by omega)) ko_X10_begins km_X10_171 ki_X10_begins ks_X10_begins kn_X10 (by decide +kernel) rfl hm_6.1 rfl hl.1 rfl (by simp [Value.category]) dX10_pair_41 (by rw [hR]; exact ⟨rfl, rfl, Nat.le_of_ble_eq_true rfl, Nat.le_of_ble_eq_true rfl, by simp, by simp⟩) (fun r_65 ah_66 H_67 L_68 st_69 hp hw hst => ?_)
        obtain ⟨hr_70, rfl⟩ := hp
        rw [show mBeg X Y ((upd (upd q 6 ((mMeet X Y (q 6) (q 7) a b).2.1)) 7 ((mMeet X Y (q 6) (q 7) a b).2.2)) 6) ((upd (upd q 6 ((mMeet X Y (q 6) (q 7) a b).2.1)) 7 ((mMeet X Y (q 6) (q 7) a b).2.2)) 7) a = mBeg X Y ((mMeet X Y (q 6) (q 7) a b).2.1) ((mMeet X Y (q 6) (q 7) a b).2.2) a from (by rw [show (upd (upd q 6 ((mMeet X Y (q 6) (q 7) a b).2.1)) 7 ((mMeet X Y (q 6) (q 7) a b).2.2)) 6 = (mMeet X Y (q 6) (q 7) a b).2.1 from ((upd_n (by decide)).trans upd_e), show (upd (upd q 6 ((mMeet X Y (q 6) (q 7) a b).2.1)) 7 ((mMeet X Y (q 6) (q 7) a b).2.2)) 7 = (mMeet X Y (q 6) (q 7) a b).2.2 from upd_e])] at hr_70
        subst hr_70
        have hst : st_69 = [.int (bI (mBeg X Y ((mMeet X Y (q 6) (q 7) a b).2.1) ((mMeet X Y (q 6) (q 7) a b).2.2) a))] := hst
        subst hst
        refine lv_if_ne (tgt := 72) hx hb dX10_pair_44 (by decide) (fun c_71 => ?_) (fun c_71 => ?_)
        · skip
          have c_71 : ¬ (mBeg X Y ((mMeet X Y (q 6) (q 7) a b).2.1) ((mMeet X Y (q 6) (q 7) a b).2.2) a = false) := (not_congr bI_0).mp c_71
          refine lv_iconst (v := 0) hx hb dX10_pair_72 (by decide) ?_
          have hv : 0 = mPair X Y RP RN (q 6) (q 7) r9 a q9 b := by
            unfold mPair
            all_goals rw [if_pos c_7, if_neg c_8, if_neg c_9, if_neg c_71]
          rw [hQ]
          exact h_iret hx hb hr hlk hsz hw (by simp) (by simp) dX10_pair_73 ⟨(upd (upd q 6 ((mMeet X Y (q 6) (q 7) a b).2.1)) 7 ((mMeet X Y (q 6) (q 7) a b).2.2)), congrArg (fun z => some (Value.int z)) hv, (by subst_vars; simp only [hup_hup]), fun k hk => by rw [upd_n (by omega), upd_n (by omega)]⟩
        · skip
          have c_71 : mBeg X Y ((mMeet X Y (q 6) (q 7) a b).2.1) ((mMeet X Y (q 6) (q 7) a b).2.2) a = false := bI_0.mp c_71
          refine lv_aload_n hx hb dX10_pair_47 rfl (lv_at hl 1 rfl) ?_
          refine lv_iload hx hb dX10_pair_48 (lv_at hl 5 rfl) ?_
          refine h_callV (n := 1) (ci := 10) (b := mo) (As := [.int (nI b)]) (rest := []) ⟨hx, hb, hml, hown, hts⟩ hK hw (c_X10_begins l D dT ah_2 H_67.size mo AR (upd (upd q 6 ((mMeet X Y (q 6) (q 7) a b).2.1)) 7 ((mMeet X Y (q 6) (q 7) a b).2.2)) g hm_6 np X Y hX b (by omega)) ko_X10_begins km_X10_171 ki_X10_begins ks_X10_begins kn_X10 (by decide +kernel) rfl hm_6.1 rfl hl.1 rfl (by simp [Value.category]) dX10_pair_50 (by rw [hR]; exact ⟨rfl, rfl, Nat.le_of_ble_eq_true rfl, Nat.le_of_ble_eq_true rfl, by simp, by simp⟩) (fun r_72 ah_73 H_74 L_75 st_76 hp hw hst => ?_)
          obtain ⟨hr_77, rfl⟩ := hp
          rw [show mBeg X Y ((upd (upd q 6 ((mMeet X Y (q 6) (q 7) a b).2.1)) 7 ((mMeet X Y (q 6) (q 7) a b).2.2)) 6) ((upd (upd q 6 ((mMeet X Y (q 6) (q 7) a b).2.1)) 7 ((mMeet X Y (q 6) (q 7) a b).2.2)) 7) b = mBeg X Y ((mMeet X Y (q 6) (q 7) a b).2.1) ((mMeet X Y (q 6) (q 7) a b).2.2) b from (by rw [show (upd (upd q 6 ((mMeet X Y (q 6) (q 7) a b).2.1)) 7 ((mMeet X Y (q 6) (q 7) a b).2.2)) 6 = (mMeet X Y (q 6) (q 7) a b).2.1 from ((upd_n (by decide)).trans upd_e), show (upd (upd q 6 ((mMeet X Y (q 6) (q 7) a b).2.1)) 7 ((mMeet X Y (q 6) (q 7) a b).2.2)) 7 = (mMeet X Y (q 6) (q 7) a b).2.2 from upd_e])] at hr_77
          subst hr_77
          have hst : st_76 = [.int (bI (mBeg X Y ((mMeet X Y (q 6) (q 7) a b).2.1) ((mMeet X Y (q 6) (q 7) a b).2.2) b))] := hst
          subst hst
          refine lv_if_ne (tgt := 72) hx hb dX10_pair_53 (by decide) (fun c_78 => ?_) (fun c_78 => ?_)
          · skip
            have c_78 : ¬ (mBeg X Y ((mMeet X Y (q 6) (q 7) a b).2.1) ((mMeet X Y (q 6) (q 7) a b).2.2) b = false) := (not_congr bI_0).mp c_78
            refine lv_iconst (v := 0) hx hb dX10_pair_72 (by decide) ?_
            have hv : 0 = mPair X Y RP RN (q 6) (q 7) r9 a q9 b := by
              unfold mPair
              all_goals rw [if_pos c_7, if_neg c_8, if_neg c_9, if_pos c_71, if_neg c_78]
            rw [hQ]
            exact h_iret hx hb hr hlk hsz hw (by simp) (by simp) dX10_pair_73 ⟨(upd (upd q 6 ((mMeet X Y (q 6) (q 7) a b).2.1)) 7 ((mMeet X Y (q 6) (q 7) a b).2.2)), congrArg (fun z => some (Value.int z)) hv, (by subst_vars; simp only [hup_hup]), fun k hk => by rw [upd_n (by omega), upd_n (by omega)]⟩
          · skip
            have c_78 : mBeg X Y ((mMeet X Y (q 6) (q 7) a b).2.1) ((mMeet X Y (q 6) (q 7) a b).2.2) b = false := bI_0.mp c_78
            refine lv_aload_n hx hb dX10_pair_56 rfl (lv_at hl 1 rfl) ?_
            refine lv_iload_n hx hb dX10_pair_57 rfl (lv_at hl 2 rfl) ?_
            refine lv_iload_n hx hb dX10_pair_58 rfl (lv_at hl 3 rfl) ?_
            refine lv_iload_n hx hb dX10_pair_59 rfl (lv_at hl 4 rfl) ?_
            refine lv_iload hx hb dX10_pair_60 (lv_at hl 5 rfl) ?_
            refine h_callV (n := 4) (ci := 10) (b := mo) (As := [.int (nI r9), .int (nI a), .int (nI q9), .int (nI b)]) (rest := []) ⟨hx, hb, hml, hown, hts⟩ hK hw (c_X10_crosses l D dT ah_2 H_74.size mo AR (upd (upd q 6 ((mMeet X Y (q 6) (q 7) a b).2.1)) 7 ((mMeet X Y (q 6) (q 7) a b).2.2)) g hm_6 np X Y hX nr RP RN hRg r9 a q9 b (by omega) (by omega) (by omega) (by omega) (by omega) (by omega) ((mMeet X Y (q 6) (q 7) a b).2.1) ((mMeet X Y (q 6) (q 7) a b).2.2) ((upd_n (by decide)).trans upd_e) upd_e) ko_X10_crosses km_X10_174 ki_X10_crosses ks_X10_crosses kn_X10 (by decide +kernel) rfl hm_6.1 rfl hl.1 rfl (by simp [Value.category]) dX10_pair_62 (by rw [hR]; exact ⟨rfl, rfl, Nat.le_of_ble_eq_true rfl, Nat.le_of_ble_eq_true rfl, by simp, by simp⟩) (fun r_79 ah_80 H_81 L_82 st_83 hp hw hst => ?_)
            obtain ⟨q_84, rfl, eah_80, hlq_84⟩ := hp
            have hm_85 : moA dT ah_80 mo AR q_84 g := moA_q hm_6 eah_80
            have hst : st_83 = [.int (bI (mCr X Y RP RN ((mMeet X Y (q 6) (q 7) a b).2.1) ((mMeet X Y (q 6) (q 7) a b).2.2) r9 a q9 b))] := hst
            subst hst
            have J_88 : ∀ (v_87 : Int32) (ls : Array Slot), lv_has ls 7 [(5, .int ((mMeet X Y (q 6) (q 7) a b).1)), (0, .ref mo), (1, .int (nI r9)), (2, .int (nI a)), (3, .int (nI q9)), (4, .int (nI b))] → v_87 = (if mCr X Y RP RN ((mMeet X Y (q 6) (q 7) a b).2.1) ((mMeet X Y (q 6) (q 7) a b).2.2) r9 a q9 b = false then 0 else 4) → W p l e R s m args below meth c H_81 L_82 (0 + 0 + 0 + 0 + 0) (0 + 0 + 0 + 0 + 0) Q (F0 m 73 ls [.int v_87]) := by
              intro v_87 ls hl ev_87
              have hv : v_87 = mPair X Y RP RN (q 6) (q 7) r9 a q9 b := by
                subst ev_87
                unfold mPair
                all_goals rw [if_pos c_7, if_neg c_8, if_neg c_9, if_pos c_71, if_pos c_78]
              rw [hQ]
              exact h_iret hx hb hr hlk hsz hw (by simp) (by simp) dX10_pair_73 ⟨q_84, congrArg (fun z => some (Value.int z)) hv, (by subst_vars; simp only [hup_hup]), fun k hk => (hlq_84 k (by omega)).trans (by rw [upd_n (by omega), upd_n (by omega)])⟩
            refine lv_if_eq (tgt := 72) hx hb dX10_pair_65 (by decide) (fun c_86 => ?_) (fun c_86 => ?_)
            · skip
              have c_86 : mCr X Y RP RN ((mMeet X Y (q 6) (q 7) a b).2.1) ((mMeet X Y (q 6) (q 7) a b).2.2) r9 a q9 b = false := bI_0.mp c_86
              refine lv_iconst (v := 0) hx hb dX10_pair_72 (by decide) ?_
              exact J_88 0 ls (lv_sub hl [0, 1, 2, 3, 4, 5] rfl) (by rw [if_pos c_86])
            · skip
              have c_86 : ¬ (mCr X Y RP RN ((mMeet X Y (q 6) (q 7) a b).2.1) ((mMeet X Y (q 6) (q 7) a b).2.2) r9 a q9 b = false) := (not_congr bI_0).mp c_86
              refine lv_iconst (v := 4) hx hb dX10_pair_68 (by decide) ?_
              refine lv_goto (tgt := 73) hx hb dX10_pair_69 (by decide) ?_
              exact J_88 4 ls (lv_sub hl [0, 1, 2, 3, 4, 5] rfl) (by rw [if_neg c_86])
    · skip
      refine lv_iconst (v := 0) hx hb dX10_pair_32 (by decide) ?_
      have hv : 0 = mPair X Y RP RN (q 6) (q 7) r9 a q9 b := by
        unfold mPair
        all_goals rw [if_pos c_7, if_pos c_8]
      rw [hQ]
      exact h_iret hx hb hr hlk hsz hw (by simp) (by simp) dX10_pair_33 ⟨(upd (upd q 6 ((mMeet X Y (q 6) (q 7) a b).2.1)) 7 ((mMeet X Y (q 6) (q 7) a b).2.2)), congrArg (fun z => some (Value.int z)) hv, (by subst_vars; simp only [hup_hup]), fun k hk => by rw [upd_n (by omega), upd_n (by omega)]⟩
  · skip
    refine lv_iload hx hb dX10_pair_15 (lv_at hl 0 rfl) ?_
    refine lv_iconst (v := 3) hx hb dX10_pair_17 (by decide) ?_
    have J_91 : ∀ (v_90 : Int32) (ls : Array Slot), lv_has ls 7 [(5, .int ((mMeet X Y (q 6) (q 7) a b).1)), (0, .ref mo), (1, .int (nI r9)), (2, .int (nI a)), (3, .int (nI q9)), (4, .int (nI b))] → v_90 = (if (mMeet X Y (q 6) (q 7) a b).1 = 3 then 3 else 4) → W p l e R s m args below meth c H_3 L_4 (0 + 0) (0 + 0) Q (F0 m 26 ls [.int v_90]) := by
      intro v_90 ls hl ev_90
      have hv : v_90 = mPair X Y RP RN (q 6) (q 7) r9 a q9 b := by
        subst ev_90
        unfold mPair
        all_goals rw [if_neg c_7]
      rw [hQ]
      exact h_iret hx hb hr hlk hsz hw (by simp) (by simp) dX10_pair_26 ⟨(upd (upd q 6 ((mMeet X Y (q 6) (q 7) a b).2.1)) 7 ((mMeet X Y (q 6) (q 7) a b).2.2)), congrArg (fun z => some (Value.int z)) hv, (by subst_vars; simp only [hup_hup]), fun k hk => by rw [upd_n (by omega), upd_n (by omega)]⟩
    refine lv_icmp_ne (tgt := 25) hx hb dX10_pair_18 (by decide) (fun c_89 => ?_) (fun c_89 => ?_)
    · skip
      refine lv_iconst (v := 4) hx hb dX10_pair_25 (by decide) ?_
      exact J_91 4 ls (lv_sub hl [0, 1, 2, 3, 4, 5] rfl) (by rw [if_neg c_89])
    · skip
      refine lv_iconst (v := 3) hx hb dX10_pair_21 (by decide) ?_
      refine lv_goto (tgt := 26) hx hb dX10_pair_22 (by decide) ?_
      exact J_91 3 ls (lv_sub hl [0, 1, 2, 3, 4, 5] rfl) (by rw [if_pos c_89])

set_option maxHeartbeats 4000000 in
set_option maxRecDepth 100000 in
theorem c_X10_told (l : Launch) (D : va_G) (dT : Nat → ClassId) (ah : hA) (sz : Nat) (mo : Nat) (AR : Nat → Nat) (q : Nat → Int32) (g : Nat → Nat → Int32) (hm : moA dT ah mo AR q g) (pl : Nat → Int32) (hpl : g 12 = pl) (wt sh9 a1 a2 a3 : Int32) : hMet l yX10_told cX10_told 6 (some .int) ({ frames := 0, cells := 0, slots := 0, locals := 0 }) D dT [.ref mo, .int wt, .int sh9, .int a1, .int a2, .int a3] ah sz (fun r ah2 => r = some (.int wt) ∧ ah2 = hup ah (AR 12) (.inl (dT 0, 7, .inl (p1 (upd pl 0 sh9) a1 a2 a3)))) 0 0 := by
  refine h_met (by decide) (Nat.le_of_ble_eq_true rfl) ?_
  intro p e s m below meth c ls R Q args hav hR hQ hB hl hsz hw
  obtain ⟨hx, hb, hml, hr, hts, hown, hlk, hin, hK⟩ := hB
  have hown : s.vm.findClass RX10 = some m.cls := hown
  have hl : lv_has ls 6 [(0, .ref mo), (1, .int wt), (2, .int sh9), (3, .int a1), (4, .int a2), (5, .int a3)] := hl
  refine lv_aload_n hx hb dX10_told_0 rfl (lv_at hl 0 rfl) ?_
  refine h_get (ci := 10) (v := .ref (AR 12)) (C := RX10) (T := TX10) (N := 26) hx hb hts kl_X10 hown hK hw hm.1 rfl 18 (by decide) (hts _ kf_X10_46) rfl rfl dX10_told_1 ?_
  refine lv_iconst (v := 0) hx hb dX10_told_4 (by decide) ?_
  refine lv_iload_n hx hb dX10_told_5 rfl (lv_at hl 2 rfl) ?_
  refine h_iast hx hb hK hw (moA_a (n := 7) (f := g 12) hm 12 (by decide) rfl rfl) 0 (by decide) (by omega) (by omega) dX10_told_6 (fun H_1 L_2 hw => ?_)
  obtain ⟨ah_3, eah_3⟩ : ∃ z9 : hA, z9 = hup ah (AR 12) (.inl (dT 0, 7, .inl (upd (g 12) 0 sh9))) := ⟨_, rfl⟩
  have hw : hW D ah s.heap ah_3 H_1 L_2 := by rw [eah_3]; exact hw
  have hm_4 : moA dT ah_3 mo AR q (va_up g 12 (upd (g 12) 0 sh9)) := moA_g hm 12 (by decide) eah_3
  refine lv_aload_n hx hb dX10_told_7 rfl (lv_at hl 0 rfl) ?_
  refine h_get (ci := 10) (v := .ref (AR 12)) (C := RX10) (T := TX10) (N := 26) hx hb hts kl_X10 hown hK hw hm_4.1 rfl 18 (by decide) (hts _ kf_X10_46) rfl rfl dX10_told_8 ?_
  refine lv_iconst (v := 1) hx hb dX10_told_11 (by decide) ?_
  refine lv_iload_n hx hb dX10_told_12 rfl (lv_at hl 3 rfl) ?_
  refine h_iast hx hb hK hw (moA_a (n := 7) (f := (upd (g 12) 0 sh9)) hm_4 12 (by decide) rfl rfl) 1 (by decide) (by omega) (by omega) dX10_told_13 (fun H_5 L_6 hw => ?_)
  obtain ⟨ah_7, eah_7⟩ : ∃ z9 : hA, z9 = hup ah_3 (AR 12) (.inl (dT 0, 7, .inl (upd (upd (g 12) 0 sh9) 1 a1))) := ⟨_, rfl⟩
  have hw : hW D ah s.heap ah_7 H_5 L_6 := by rw [eah_7]; exact hw
  have hm_8 : moA dT ah_7 mo AR q (va_up (va_up g 12 (upd (g 12) 0 sh9)) 12 (upd (upd (g 12) 0 sh9) 1 a1)) := moA_g hm_4 12 (by decide) eah_7
  refine lv_aload_n hx hb dX10_told_14 rfl (lv_at hl 0 rfl) ?_
  refine h_get (ci := 10) (v := .ref (AR 12)) (C := RX10) (T := TX10) (N := 26) hx hb hts kl_X10 hown hK hw hm_8.1 rfl 18 (by decide) (hts _ kf_X10_46) rfl rfl dX10_told_15 ?_
  refine lv_iconst (v := 2) hx hb dX10_told_18 (by decide) ?_
  refine lv_iload hx hb dX10_told_19 (lv_at hl 4 rfl) ?_
  refine h_iast hx hb hK hw (moA_a (n := 7) (f := (upd (upd (g 12) 0 sh9) 1 a1)) hm_8 12 (by decide) rfl rfl) 2 (by decide) (by omega) (by omega) dX10_told_21 (fun H_9 L_10 hw => ?_)
  obtain ⟨ah_11, eah_11⟩ : ∃ z9 : hA, z9 = hup ah_7 (AR 12) (.inl (dT 0, 7, .inl (upd (upd (upd (g 12) 0 sh9) 1 a1) 2 a2))) := ⟨_, rfl⟩
  have hw : hW D ah s.heap ah_11 H_9 L_10 := by rw [eah_11]; exact hw
  have hm_12 : moA dT ah_11 mo AR q (va_up (va_up (va_up g 12 (upd (g 12) 0 sh9)) 12 (upd (upd (g 12) 0 sh9) 1 a1)) 12 (upd (upd (upd (g 12) 0 sh9) 1 a1) 2 a2)) := moA_g hm_8 12 (by decide) eah_11
  refine lv_aload_n hx hb dX10_told_22 rfl (lv_at hl 0 rfl) ?_
  refine h_get (ci := 10) (v := .ref (AR 12)) (C := RX10) (T := TX10) (N := 26) hx hb hts kl_X10 hown hK hw hm_12.1 rfl 18 (by decide) (hts _ kf_X10_46) rfl rfl dX10_told_23 ?_
  refine lv_iconst (v := 3) hx hb dX10_told_26 (by decide) ?_
  refine lv_iload hx hb dX10_told_27 (lv_at hl 5 rfl) ?_
  refine h_iast hx hb hK hw (moA_a (n := 7) (f := (upd (upd (upd (g 12) 0 sh9) 1 a1) 2 a2)) hm_12 12 (by decide) rfl rfl) 3 (by decide) (by omega) (by omega) dX10_told_29 (fun H_13 L_14 hw => ?_)
  obtain ⟨ah_15, eah_15⟩ : ∃ z9 : hA, z9 = hup ah_11 (AR 12) (.inl (dT 0, 7, .inl (upd (upd (upd (upd (g 12) 0 sh9) 1 a1) 2 a2) 3 a3))) := ⟨_, rfl⟩
  have hw : hW D ah s.heap ah_15 H_13 L_14 := by rw [eah_15]; exact hw
  have hm_16 : moA dT ah_15 mo AR q (va_up (va_up (va_up (va_up g 12 (upd (g 12) 0 sh9)) 12 (upd (upd (g 12) 0 sh9) 1 a1)) 12 (upd (upd (upd (g 12) 0 sh9) 1 a1) 2 a2)) 12 (upd (upd (upd (upd (g 12) 0 sh9) 1 a1) 2 a2) 3 a3)) := moA_g hm_12 12 (by decide) eah_15
  refine lv_iload_n hx hb dX10_told_30 rfl (lv_at hl 1 rfl) ?_
  rw [hQ]
  exact h_iret hx hb hr hlk hsz hw (by simp) (by simp) dX10_told_31 ⟨rfl, by subst_vars; simp only [hup_hup]; rfl⟩

set_option maxHeartbeats 4000000 in
set_option maxRecDepth 100000 in
theorem c_X10_other (l : Launch) (D : va_G) (dT : Nat → ClassId) (ah : hA) (sz : Nat) (mo : Nat) (AR : Nat → Nat) (q : Nat → Int32) (g : Nat → Nat → Int32) (hm : moA dT ah mo AR q g) (pl : Nat → Int32) (hpl : g 12 = pl) (a1 a2 a3 : Int32) : hMet l yX10_other cX10_other 4 none ({ frames := 0, cells := 0, slots := 0, locals := 0 }) D dT [.ref mo, .int a1, .int a2, .int a3] ah sz (fun r ah2 => r = none ∧ ah2 = hup ah (AR 12) (.inl (dT 0, 7, .inl (p2 pl a1 a2 a3)))) 0 0 := by
  refine h_met (by decide) (Nat.le_of_ble_eq_true rfl) ?_
  intro p e s m below meth c ls R Q args hav hR hQ hB hl hsz hw
  obtain ⟨hx, hb, hml, hr, hts, hown, hlk, hin, hK⟩ := hB
  have hown : s.vm.findClass RX10 = some m.cls := hown
  have hl : lv_has ls 4 [(0, .ref mo), (1, .int a1), (2, .int a2), (3, .int a3)] := hl
  refine lv_aload_n hx hb dX10_other_0 rfl (lv_at hl 0 rfl) ?_
  refine h_get (ci := 10) (v := .ref (AR 12)) (C := RX10) (T := TX10) (N := 26) hx hb hts kl_X10 hown hK hw hm.1 rfl 18 (by decide) (hts _ kf_X10_46) rfl rfl dX10_other_1 ?_
  refine lv_iconst (v := 4) hx hb dX10_other_4 (by decide) ?_
  refine lv_iload_n hx hb dX10_other_5 rfl (lv_at hl 1 rfl) ?_
  refine h_iast hx hb hK hw (moA_a (n := 7) (f := g 12) hm 12 (by decide) rfl rfl) 4 (by decide) (by omega) (by omega) dX10_other_6 (fun H_1 L_2 hw => ?_)
  obtain ⟨ah_3, eah_3⟩ : ∃ z9 : hA, z9 = hup ah (AR 12) (.inl (dT 0, 7, .inl (upd (g 12) 4 a1))) := ⟨_, rfl⟩
  have hw : hW D ah s.heap ah_3 H_1 L_2 := by rw [eah_3]; exact hw
  have hm_4 : moA dT ah_3 mo AR q (va_up g 12 (upd (g 12) 4 a1)) := moA_g hm 12 (by decide) eah_3
  refine lv_aload_n hx hb dX10_other_7 rfl (lv_at hl 0 rfl) ?_
  refine h_get (ci := 10) (v := .ref (AR 12)) (C := RX10) (T := TX10) (N := 26) hx hb hts kl_X10 hown hK hw hm_4.1 rfl 18 (by decide) (hts _ kf_X10_46) rfl rfl dX10_other_8 ?_
  refine lv_iconst (v := 5) hx hb dX10_other_11 (by decide) ?_
  refine lv_iload_n hx hb dX10_other_12 rfl (lv_at hl 2 rfl) ?_
  refine h_iast hx hb hK hw (moA_a (n := 7) (f := (upd (g 12) 4 a1)) hm_4 12 (by decide) rfl rfl) 5 (by decide) (by omega) (by omega) dX10_other_13 (fun H_5 L_6 hw => ?_)
  obtain ⟨ah_7, eah_7⟩ : ∃ z9 : hA, z9 = hup ah_3 (AR 12) (.inl (dT 0, 7, .inl (upd (upd (g 12) 4 a1) 5 a2))) := ⟨_, rfl⟩
  have hw : hW D ah s.heap ah_7 H_5 L_6 := by rw [eah_7]; exact hw
  have hm_8 : moA dT ah_7 mo AR q (va_up (va_up g 12 (upd (g 12) 4 a1)) 12 (upd (upd (g 12) 4 a1) 5 a2)) := moA_g hm_4 12 (by decide) eah_7
  refine lv_aload_n hx hb dX10_other_14 rfl (lv_at hl 0 rfl) ?_
  refine h_get (ci := 10) (v := .ref (AR 12)) (C := RX10) (T := TX10) (N := 26) hx hb hts kl_X10 hown hK hw hm_8.1 rfl 18 (by decide) (hts _ kf_X10_46) rfl rfl dX10_other_15 ?_
  refine lv_bipush (v := 6) hx hb dX10_other_18 (by decide) ?_
  refine lv_iload_n hx hb dX10_other_20 rfl (lv_at hl 3 rfl) ?_
  refine h_iast hx hb hK hw (moA_a (n := 7) (f := (upd (upd (g 12) 4 a1) 5 a2)) hm_8 12 (by decide) rfl rfl) 6 (by decide) (by omega) (by omega) dX10_other_21 (fun H_9 L_10 hw => ?_)
  obtain ⟨ah_11, eah_11⟩ : ∃ z9 : hA, z9 = hup ah_7 (AR 12) (.inl (dT 0, 7, .inl (upd (upd (upd (g 12) 4 a1) 5 a2) 6 a3))) := ⟨_, rfl⟩
  have hw : hW D ah s.heap ah_11 H_9 L_10 := by rw [eah_11]; exact hw
  have hm_12 : moA dT ah_11 mo AR q (va_up (va_up (va_up g 12 (upd (g 12) 4 a1)) 12 (upd (upd (g 12) 4 a1) 5 a2)) 12 (upd (upd (upd (g 12) 4 a1) 5 a2) 6 a3)) := moA_g hm_8 12 (by decide) eah_11
  rw [hQ]
  exact h_vret hx hb hr hlk hsz hw (by simp) (by simp) dX10_other_22 ⟨rfl, by subst_vars; simp only [hup_hup]; rfl⟩

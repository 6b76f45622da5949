/-! ShapeJudge$Meeting -/
set_option maxHeartbeats 4000000 in
set_option maxRecDepth 100000 in
theorem c_X3_init (l : Launch) (D : va_G) (dT : Nat → ClassId) (ah : hA) (sz : Nat) (mt : Nat) (mx my : Int32) (hem : ah mt = some (.inr (3, [.int mx, .int my]))) : hMet l yX3_init cX3_init 1 none ({ frames := 1, cells := 0, slots := 0, locals := 20 }) D dT [.ref mt] ah sz (fun r ah2 => r = none ∧ ah = ah2) 0 0 := by
  refine h_met (by decide) (Nat.le_of_ble_eq_true rfl) ?_
  intro p e s m below meth c ls R Q args hav hR hQ hB hl hsz hw
  obtain ⟨hx, hb, hml, hr, hts, hown, hlk, hin, hK⟩ := hB
  have hown : s.vm.findClass RX3 = some m.cls := hown
  have hl : lv_has ls 1 [(0, .ref mt)] := hl
  refine lv_aload_n hx hb dX3_init_0 rfl (lv_at hl 0 rfl) ?_
  refine W.objInit hx hb hown (hts _ km_X3_3) (hts _ ki_obj) (hts _ ko_obj) rfl (by rw [hml]; exact hl.1) rfl dX3_init_1 (by rw [hR]; exact Nat.le_of_ble_eq_true rfl) (by rw [hR]; exact Nat.le_of_ble_eq_true rfl) ?_
  refine W.eq (g2 := F0 m 4 ls []) rfl ?_
  rw [hQ]
  exact h_vret hx hb hr hlk hsz hw (by simp) (by simp) dX3_init_4 ⟨rfl, rfl⟩

def mtOne (u v : Int64) : Bool := (if u ≤ 0 then (if 0 ≤ u then false else (if 0 ≤ v then false else true)) else (if 0 < v then true else (if 0 ≤ u then false else (if 0 ≤ v then false else true))))
set_option maxHeartbeats 4000000 in
set_option maxRecDepth 100000 in
theorem c_X3_isOneSide (l : Launch) (D : va_G) (dT : Nat → ClassId) (ah : hA) (sz : Nat) (u v : Int64) : hMet l yX3_isOneSide cX3_isOneSide 4 (some .boolean) ({ frames := 0, cells := 0, slots := 0, locals := 0 }) D dT [.long u, .long v] ah sz (fun r ah2 => r = some (.int (bI (mtOne u v))) ∧ ah = ah2) 0 0 := by
  refine h_met (by decide) (Nat.le_of_ble_eq_true rfl) ?_
  intro p e s m below meth c ls R Q args hav hR hQ hB hl hsz hw
  obtain ⟨hx, hb, hml, hr, hts, hown, hlk, hin, hK⟩ := hB
  have hown : s.vm.findClass RX3 = some m.cls := hown
  have hl : lv_has ls 4 [(0, .long u), (2, .long v)] := hl
  refine lv_lload_n hx hb dX3_isOneSide_0 rfl (lv_at hl 0 rfl) ?_
  refine lv_lconst (v := 0) hx hb dX3_isOneSide_1 (by decide) ?_
  refine W.lcmp hx hb dX3_isOneSide_2 ?_
  have J_8 : ∀ (v_7 : Int32) (ls : Array Slot), lv_has ls 4 [(0, .long u), (2, .long v)] → v_7 = (if u ≤ 0 then (if 0 ≤ u then 0 else (if 0 ≤ v then 0 else 1)) else (if 0 < v then 1 else (if 0 ≤ u then 0 else (if 0 ≤ v then 0 else 1)))) → W p l e R s m args below meth c s.heap [] (0) (0) Q (F0 m 29 ls [.int v_7]) := by
    intro v_7 ls hl ev_7
    have hv : v_7 = bI (mtOne u v) := by
      subst ev_7
      unfold mtOne
      simp only [bI_if, bI_t, bI_f]
      all_goals rfl
    rw [hQ]
    exact h_zret hx hb hr hlk hsz hw (by simp) (by simp) dX3_isOneSide_29 (bI_v hv) ⟨congrArg (fun z => some (Value.int z)) hv, rfl⟩
  refine lv_if_le (tgt := 12) hx hb dX3_isOneSide_3 (by decide) (fun c_1 => ?_) (fun c_1 => ?_)
  · skip
    have c_1 : u ≤ 0 := lgc_le.mp c_1
    refine lv_lload_n hx hb dX3_isOneSide_12 rfl (lv_at hl 0 rfl) ?_
    refine lv_lconst (v := 0) hx hb dX3_isOneSide_13 (by decide) ?_
    refine W.lcmp hx hb dX3_isOneSide_14 ?_
    refine lv_if_ge (tgt := 28) hx hb dX3_isOneSide_15 (by decide) (fun c_2 => ?_) (fun c_2 => ?_)
    · skip
      have c_2 : 0 ≤ u := lgc_ge.mp c_2
      refine lv_iconst (v := 0) hx hb dX3_isOneSide_28 (by decide) ?_
      exact J_8 0 ls (lv_sub hl [0, 1] rfl) (by rw [if_pos c_1, if_pos c_2])
    · skip
      have c_2 : ¬ (0 ≤ u) := (not_congr lgc_ge).mp c_2
      refine lv_lload_n hx hb dX3_isOneSide_18 rfl (lv_at hl 1 rfl) ?_
      refine lv_lconst (v := 0) hx hb dX3_isOneSide_19 (by decide) ?_
      refine W.lcmp hx hb dX3_isOneSide_20 ?_
      refine lv_if_ge (tgt := 28) hx hb dX3_isOneSide_21 (by decide) (fun c_3 => ?_) (fun c_3 => ?_)
      · skip
        have c_3 : 0 ≤ v := lgc_ge.mp c_3
        refine lv_iconst (v := 0) hx hb dX3_isOneSide_28 (by decide) ?_
        exact J_8 0 ls (lv_sub hl [0, 1] rfl) (by rw [if_pos c_1, if_neg c_2, if_pos c_3])
      · skip
        have c_3 : ¬ (0 ≤ v) := (not_congr lgc_ge).mp c_3
        refine lv_iconst (v := 1) hx hb dX3_isOneSide_24 (by decide) ?_
        refine lv_goto (tgt := 29) hx hb dX3_isOneSide_25 (by decide) ?_
        exact J_8 1 ls (lv_sub hl [0, 1] rfl) (by rw [if_pos c_1, if_neg c_2, if_neg c_3])
  · skip
    have c_1 : ¬ (u ≤ 0) := (not_congr lgc_le).mp c_1
    refine lv_lload_n hx hb dX3_isOneSide_6 rfl (lv_at hl 1 rfl) ?_
    refine lv_lconst (v := 0) hx hb dX3_isOneSide_7 (by decide) ?_
    refine W.lcmp hx hb dX3_isOneSide_8 ?_
    refine lv_if_gt (tgt := 24) hx hb dX3_isOneSide_9 (by decide) (fun c_4 => ?_) (fun c_4 => ?_)
    · skip
      have c_4 : 0 < v := lgc_gt.mp c_4
      refine lv_iconst (v := 1) hx hb dX3_isOneSide_24 (by decide) ?_
      refine lv_goto (tgt := 29) hx hb dX3_isOneSide_25 (by decide) ?_
      exact J_8 1 ls (lv_sub hl [0, 1] rfl) (by rw [if_neg c_1, if_pos c_4])
    · skip
      have c_4 : ¬ (0 < v) := (not_congr lgc_gt).mp c_4
      refine lv_lload_n hx hb dX3_isOneSide_12 rfl (lv_at hl 0 rfl) ?_
      refine lv_lconst (v := 0) hx hb dX3_isOneSide_13 (by decide) ?_
      refine W.lcmp hx hb dX3_isOneSide_14 ?_
      refine lv_if_ge (tgt := 28) hx hb dX3_isOneSide_15 (by decide) (fun c_5 => ?_) (fun c_5 => ?_)
      · skip
        have c_5 : 0 ≤ u := lgc_ge.mp c_5
        refine lv_iconst (v := 0) hx hb dX3_isOneSide_28 (by decide) ?_
        exact J_8 0 ls (lv_sub hl [0, 1] rfl) (by rw [if_neg c_1, if_neg c_4, if_pos c_5])
      · skip
        have c_5 : ¬ (0 ≤ u) := (not_congr lgc_ge).mp c_5
        refine lv_lload_n hx hb dX3_isOneSide_18 rfl (lv_at hl 1 rfl) ?_
        refine lv_lconst (v := 0) hx hb dX3_isOneSide_19 (by decide) ?_
        refine W.lcmp hx hb dX3_isOneSide_20 ?_
        refine lv_if_ge (tgt := 28) hx hb dX3_isOneSide_21 (by decide) (fun c_6 => ?_) (fun c_6 => ?_)
        · skip
          have c_6 : 0 ≤ v := lgc_ge.mp c_6
          refine lv_iconst (v := 0) hx hb dX3_isOneSide_28 (by decide) ?_
          exact J_8 0 ls (lv_sub hl [0, 1] rfl) (by rw [if_neg c_1, if_neg c_4, if_neg c_5, if_pos c_6])
        · skip
          have c_6 : ¬ (0 ≤ v) := (not_congr lgc_ge).mp c_6
          refine lv_iconst (v := 1) hx hb dX3_isOneSide_24 (by decide) ?_
          refine lv_goto (tgt := 29) hx hb dX3_isOneSide_25 (by decide) ?_
          exact J_8 1 ls (lv_sub hl [0, 1] rfl) (by rw [if_neg c_1, if_neg c_4, if_neg c_5, if_neg c_6])

set_option maxHeartbeats 4000000 in
set_option maxRecDepth 100000 in
theorem c_X3_meetAt (l : Launch) (D : va_G) (dT : Nat → ClassId) (ah : hA) (sz : Nat) (mt : Nat) (mx my : Int32) (hem : ah mt = some (.inr (3, [.int mx, .int my]))) (x y : Int32) : hMet l yX3_meetAt cX3_meetAt 3 (some .int) ({ frames := 0, cells := 0, slots := 0, locals := 0 }) D dT [.ref mt, .int x, .int y] ah sz (fun r ah2 => r = some (.int 2) ∧ ah2 = hup ah mt (.inr (3, [.int x, .int y]))) 0 0 := by
  refine h_met (by decide) (Nat.le_of_ble_eq_true rfl) ?_
  intro p e s m below meth c ls R Q args hav hR hQ hB hl hsz hw
  obtain ⟨hx, hb, hml, hr, hts, hown, hlk, hin, hK⟩ := hB
  have hown : s.vm.findClass RX3 = some m.cls := hown
  have hl : lv_has ls 3 [(0, .ref mt), (1, .int x), (2, .int y)] := hl
  refine lv_aload_n hx hb dX3_meetAt_0 rfl (lv_at hl 0 rfl) ?_
  refine lv_iload_n hx hb dX3_meetAt_1 rfl (lv_at hl 1 rfl) ?_
  refine h_put (ci := 3) (v := .int x) (C := RX3) (T := TX3) (N := 2) hx hb hts kl_X3 tyX3 tyX3_ok nmX3 hown hK hw hem rfl 0 (by decide) (hts _ kf_X3_88) rfl rfl (tyX3_ok 0 (by decide)) rfl rfl (Nat.le_of_ble_eq_true rfl) dX3_meetAt_2 (fun H_1 L_2 hw => ?_)
  obtain ⟨ah_3, eah_3⟩ : ∃ z9 : hA, z9 = hup ah mt (.inr (3, [.int x, .int my])) := ⟨_, rfl⟩
  have hw : hW D ah s.heap ah_3 H_1 L_2 := by rw [eah_3]; exact hw
  have hc_4 : ah_3 mt = some (.inr (3, [.int x, .int my])) := by rw [eah_3]; exact hup_s
  refine lv_aload_n hx hb dX3_meetAt_5 rfl (lv_at hl 0 rfl) ?_
  refine lv_iload_n hx hb dX3_meetAt_6 rfl (lv_at hl 2 rfl) ?_
  refine h_put (ci := 3) (v := .int y) (C := RX3) (T := TX3) (N := 2) hx hb hts kl_X3 tyX3 tyX3_ok nmX3 hown hK hw hc_4 rfl 1 (by decide) (hts _ kf_X3_91) rfl rfl (tyX3_ok 1 (by decide)) rfl rfl (Nat.le_of_ble_eq_true rfl) dX3_meetAt_7 (fun H_5 L_6 hw => ?_)
  obtain ⟨ah_7, eah_7⟩ : ∃ z9 : hA, z9 = hup ah_3 mt (.inr (3, [.int x, .int y])) := ⟨_, rfl⟩
  have hw : hW D ah s.heap ah_7 H_5 L_6 := by rw [eah_7]; exact hw
  have hc_8 : ah_7 mt = some (.inr (3, [.int x, .int y])) := by rw [eah_7]; exact hup_s
  refine lv_iconst (v := 2) hx hb dX3_meetAt_10 (by decide) ?_
  rw [hQ]
  exact h_iret hx hb hr hlk hsz hw (by simp) (by simp) dX3_meetAt_11 ⟨rfl, by subst_vars; simp only [hup_hup]⟩

def mtLine (mx my bx0p by0p bx1p by1p bx0q by0q bx1q by1q : Int32) : Int32 × Int32 × Int32 := (if ((if iMax bx0p bx0q = iMin bx1p bx1q then (if iMax by0p by0q = iMin by1p by1q then 1 else 0) else 0) : Int32) = 0 then (3, mx, my) else (2, iMax bx0p bx0q, iMax by0p by0q))
set_option maxHeartbeats 4000000 in
set_option maxRecDepth 100000 in
theorem c_X3_meetOnOneLine (l : Launch) (D : va_G) (dT : Nat → ClassId) (ah : hA) (sz : Nat) (mt : Nat) (mx my : Int32) (hem : ah mt = some (.inr (3, [.int mx, .int my]))) (b1 : Nat) (bx0p by0p bx1p by1p : Int32) (hebp : ah b1 = some (.inr (0, [.int bx0p, .int by0p, .int bx1p, .int by1p]))) (b2 : Nat) (bx0q by0q bx1q by1q : Int32) (hebq : ah b2 = some (.inr (0, [.int bx0q, .int by0q, .int bx1q, .int by1q]))) : hMet l yX3_meetOnOneLine cX3_meetOnOneLine 6 (some .int) ({ frames := 1, cells := 0, slots := 0, locals := 24 }) D dT [.ref mt, .ref b1, .ref b2] ah sz (fun r ah2 => r = some (.int (mtLine mx my bx0p by0p bx1p by1p bx0q by0q bx1q by1q).1) ∧ ah2 = hup ah mt (.inr (3, [.int (mtLine mx my bx0p by0p bx1p by1p bx0q by0q bx1q by1q).2.1, .int (mtLine mx my bx0p by0p bx1p by1p bx0q by0q bx1q by1q).2.2]))) 0 0 := by
  refine h_met (by decide) (Nat.le_of_ble_eq_true rfl) ?_
  intro p e s m below meth c ls R Q args hav hR hQ hB hl hsz hw
  obtain ⟨hx, hb, hml, hr, hts, hown, hlk, hin, hK⟩ := hB
  have hown : s.vm.findClass RX3 = some m.cls := hown
  have hl : lv_has ls 6 [(0, .ref mt), (1, .ref b1), (2, .ref b2)] := hl
  refine lv_aload_n hx hb dX3_meetOnOneLine_0 rfl (lv_at hl 1 rfl) ?_
  refine h_getN (ci := 0) (v := .int bx0p) (C := RX0) (T := TX0) (N := 4) hx hb hts kl_X0 hown hK hw hebp rfl 0 (by decide) (va_Nw.use rfl (hK.2.1 _ (List.mem_of_getElem? (i := 0) rfl))) rfl rfl dX3_meetOnOneLine_1 ?_
  refine lv_aload_n hx hb dX3_meetOnOneLine_4 rfl (lv_at hl 2 rfl) ?_
  refine h_getN (ci := 0) (v := .int bx0q) (C := RX0) (T := TX0) (N := 4) hx hb hts kl_X0 hown hK hw hebq rfl 0 (by decide) (va_Nw.use rfl (hK.2.1 _ (List.mem_of_getElem? (i := 0) rfl))) rfl rfl dX3_meetOnOneLine_5 ?_
  refine va_mmax hx hb (by rw [hml]; exact hl.1.symm) hown (hts _ km_X3_71) (hts _ kt_J9_max_7cf53) (hts _ kn_J9) (hts _ ko_Math_max) (by rw [hR]; exact Nat.le_of_ble_eq_true rfl) (by rw [hR]; exact Nat.le_of_ble_eq_true rfl) (by rw [hR]; simp) (by rw [hR]; simp) dX3_meetOnOneLine_8 ?_
  refine lv_topi (fun t_1 et_1 => ?_)
  obtain rfl : t_1 = iMax bx0p bx0q := et_1
  refine lv_istore_n (lv' := [(3, .int (iMax bx0p bx0q)), (0, .ref mt), (1, .ref b1), (2, .ref b2)]) hx hb dX3_meetOnOneLine_11 rfl hl (by decide) rfl (fun ls hl => ?_)
  refine lv_aload_n hx hb dX3_meetOnOneLine_12 rfl (lv_at hl 2 rfl) ?_
  refine h_getN (ci := 0) (v := .int by0p) (C := RX0) (T := TX0) (N := 4) hx hb hts kl_X0 hown hK hw hebp rfl 1 (by decide) (va_Nw.use rfl (hK.2.1 _ (List.mem_of_getElem? (i := 1) rfl))) rfl rfl dX3_meetOnOneLine_13 ?_
  refine lv_aload_n hx hb dX3_meetOnOneLine_16 rfl (lv_at hl 3 rfl) ?_
  refine h_getN (ci := 0) (v := .int by0q) (C := RX0) (T := TX0) (N := 4) hx hb hts kl_X0 hown hK hw hebq rfl 1 (by decide) (va_Nw.use rfl (hK.2.1 _ (List.mem_of_getElem? (i := 1) rfl))) rfl rfl dX3_meetOnOneLine_17 ?_
  refine va_mmax hx hb (by rw [hml]; exact hl.1.symm) hown (hts _ km_X3_71) (hts _ kt_J9_max_7cf53) (hts _ kn_J9) (hts _ ko_Math_max) (by rw [hR]; exact Nat.le_of_ble_eq_true rfl) (by rw [hR]; exact Nat.le_of_ble_eq_true rfl) (by rw [hR]; simp) (by rw [hR]; simp) dX3_meetOnOneLine_20 ?_
  refine lv_topi (fun t_2 et_2 => ?_)
  obtain rfl : t_2 = iMax by0p by0q := et_2
  refine lv_istore (lv' := [(4, .int (iMax by0p by0q)), (3, .int (iMax bx0p bx0q)), (0, .ref mt), (1, .ref b1), (2, .ref b2)]) hx hb dX3_meetOnOneLine_23 hl (by decide) rfl (fun ls hl => ?_)
  refine lv_iload_n hx hb dX3_meetOnOneLine_25 rfl (lv_at hl 1 rfl) ?_
  refine lv_aload_n hx hb dX3_meetOnOneLine_26 rfl (lv_at hl 3 rfl) ?_
  refine h_getN (ci := 0) (v := .int bx1p) (C := RX0) (T := TX0) (N := 4) hx hb hts kl_X0 hown hK hw hebp rfl 2 (by decide) (va_Nw.use rfl (hK.2.1 _ (List.mem_of_getElem? (i := 2) rfl))) rfl rfl dX3_meetOnOneLine_27 ?_
  refine lv_aload_n hx hb dX3_meetOnOneLine_30 rfl (lv_at hl 4 rfl) ?_
  refine h_getN (ci := 0) (v := .int bx1q) (C := RX0) (T := TX0) (N := 4) hx hb hts kl_X0 hown hK hw hebq rfl 2 (by decide) (va_Nw.use rfl (hK.2.1 _ (List.mem_of_getElem? (i := 2) rfl))) rfl rfl dX3_meetOnOneLine_31 ?_
  refine va_mmin hx hb (by rw [hml]; exact hl.1.symm) hown (hts _ km_X3_82) (hts _ kt_J9_min_7cf53) (hts _ kn_J9) (hts _ ko_Math_min) (by rw [hR]; exact Nat.le_of_ble_eq_true rfl) (by rw [hR]; exact Nat.le_of_ble_eq_true rfl) (by rw [hR]; simp) (by rw [hR]; simp) dX3_meetOnOneLine_34 ?_
  refine lv_topi (fun t_3 et_3 => ?_)
  obtain rfl : t_3 = iMin bx1p bx1q := et_3
  have J_8 : ∀ (v_7 : Int32) (ls : Array Slot), lv_has ls 6 [(4, .int (iMax by0p by0q)), (3, .int (iMax bx0p bx0q)), (0, .ref mt), (1, .ref b1), (2, .ref b2)] → v_7 = (if iMax bx0p bx0q = iMin bx1p bx1q then (if iMax by0p by0q = iMin by1p by1q then 1 else 0) else 0) → W p l e R s m args below meth c s.heap [] (0) (0) Q (F0 m 61 ls [.int v_7]) := by
    intro v_7 ls hl ev_7
    refine lv_istore (lv' := [(5, .int v_7), (4, .int (iMax by0p by0q)), (3, .int (iMax bx0p bx0q)), (0, .ref mt), (1, .ref b1), (2, .ref b2)]) hx hb dX3_meetOnOneLine_61 hl (by decide) rfl (fun ls hl => ?_)
    refine lv_iload hx hb dX3_meetOnOneLine_63 (lv_at hl 0 rfl) ?_
    refine lv_if_eq (tgt := 78) hx hb dX3_meetOnOneLine_65 (by decide) (fun c_9 => ?_) (fun c_9 => ?_)
    · skip
      refine lv_iconst (v := 3) hx hb dX3_meetOnOneLine_78 (by decide) ?_
      have hv : (3, mx, my) = mtLine mx my bx0p by0p bx1p by1p bx0q by0q bx1q by1q := by
        subst ev_7
        unfold mtLine
        all_goals rw [if_pos c_9]
      have hh : ah = hup ah mt (.inr (3, [.int mx, .int my])) := by first | exact (hup_id hem).symm | (subst_vars; simp only [hup_hup])
      rw [hQ]
      exact h_iret hx hb hr hlk hsz hw (by simp) (by simp) dX3_meetOnOneLine_79 ⟨congrArg (a₁ := (3, mx, my)) (a₂ := mtLine mx my bx0p by0p bx1p by1p bx0q by0q bx1q by1q) (fun z : Int32 × Int32 × Int32 => some (Value.int z.1)) hv, hh.trans (congrArg (a₁ := (3, mx, my)) (a₂ := mtLine mx my bx0p by0p bx1p by1p bx0q by0q bx1q by1q) (fun z : Int32 × Int32 × Int32 => hup ah mt (.inr (3, [.int z.2.1, .int z.2.2]))) hv)⟩
    · skip
      refine lv_aload_n hx hb dX3_meetOnOneLine_68 rfl (lv_at hl 3 rfl) ?_
      refine lv_iload_n hx hb dX3_meetOnOneLine_69 rfl (lv_at hl 2 rfl) ?_
      refine lv_iload hx hb dX3_meetOnOneLine_70 (lv_at hl 1 rfl) ?_
      refine h_callV (n := 2) (ci := 3) (b := mt) (As := [.int (iMax bx0p bx0q), .int (iMax by0p by0q)]) (rest := []) ⟨hx, hb, hml, hown, hts⟩ hK hw (c_X3_meetAt l D dT ah s.heap.size mt mx my hem (iMax bx0p bx0q) (iMax by0p by0q)) ko_X3_meetAt km_X3_64 ki_X3_meetAt ks_X3_meetAt kn_X3 (by decide +kernel) rfl hem rfl hl.1 rfl (by simp [Value.category]) dX3_meetOnOneLine_72 (by rw [hR]; exact ⟨rfl, rfl, Nat.le_of_ble_eq_true rfl, Nat.le_of_ble_eq_true rfl, by simp, by simp⟩) (fun r_10 ah_11 H_12 L_13 st_14 hp hw hst => ?_)
      obtain ⟨rfl, eah_11⟩ := hp
      have hc_15 : ah_11 mt = some (.inr (3, [.int (iMax bx0p bx0q), .int (iMax by0p by0q)])) := by rw [eah_11]; exact hup_s
      have hc_16 := (show ah_11 b1 = _ from (by rw [eah_11]; exact hup_n (h_ne hebp hem (by simp)))).trans hebp
      have hc_17 := (show ah_11 b2 = _ from (by rw [eah_11]; exact hup_n (h_ne hebq hem (by simp)))).trans hebq
      have hst : st_14 = [.int 2] := hst
      subst hst
      refine lv_goto (tgt := 79) hx hb dX3_meetOnOneLine_75 (by decide) ?_
      have hv : (2, iMax bx0p bx0q, iMax by0p by0q) = mtLine mx my bx0p by0p bx1p by1p bx0q by0q bx1q by1q := by
        subst ev_7
        unfold mtLine
        all_goals rw [if_neg c_9]
      have hh : ah_11 = hup ah mt (.inr (3, [.int (iMax bx0p bx0q), .int (iMax by0p by0q)])) := by first | exact (hup_id hem).symm | (subst_vars; simp only [hup_hup])
      rw [hQ]
      exact h_iret hx hb hr hlk hsz hw (by simp) (by simp) dX3_meetOnOneLine_79 ⟨congrArg (a₁ := (2, iMax bx0p bx0q, iMax by0p by0q)) (a₂ := mtLine mx my bx0p by0p bx1p by1p bx0q by0q bx1q by1q) (fun z : Int32 × Int32 × Int32 => some (Value.int z.1)) hv, hh.trans (congrArg (a₁ := (2, iMax bx0p bx0q, iMax by0p by0q)) (a₂ := mtLine mx my bx0p by0p bx1p by1p bx0q by0q bx1q by1q) (fun z : Int32 × Int32 × Int32 => hup ah mt (.inr (3, [.int z.2.1, .int z.2.2]))) hv)⟩
  refine lv_icmp_ne (tgt := 60) hx hb dX3_meetOnOneLine_37 (by decide) (fun c_4 => ?_) (fun c_4 => ?_)
  · skip
    refine lv_iconst (v := 0) hx hb dX3_meetOnOneLine_60 (by decide) ?_
    exact J_8 0 ls (lv_sub hl [0, 1, 2, 3, 4] rfl) (by rw [if_neg c_4])
  · skip
    refine lv_iload hx hb dX3_meetOnOneLine_40 (lv_at hl 0 rfl) ?_
    refine lv_aload_n hx hb dX3_meetOnOneLine_42 rfl (lv_at hl 3 rfl) ?_
    refine h_getN (ci := 0) (v := .int by1p) (C := RX0) (T := TX0) (N := 4) hx hb hts kl_X0 hown hK hw hebp rfl 3 (by decide) (va_Nw.use rfl (hK.2.1 _ (List.mem_of_getElem? (i := 3) rfl))) rfl rfl dX3_meetOnOneLine_43 ?_
    refine lv_aload_n hx hb dX3_meetOnOneLine_46 rfl (lv_at hl 4 rfl) ?_
    refine h_getN (ci := 0) (v := .int by1q) (C := RX0) (T := TX0) (N := 4) hx hb hts kl_X0 hown hK hw hebq rfl 3 (by decide) (va_Nw.use rfl (hK.2.1 _ (List.mem_of_getElem? (i := 3) rfl))) rfl rfl dX3_meetOnOneLine_47 ?_
    refine va_mmin hx hb (by rw [hml]; exact hl.1.symm) hown (hts _ km_X3_82) (hts _ kt_J9_min_7cf53) (hts _ kn_J9) (hts _ ko_Math_min) (by rw [hR]; exact Nat.le_of_ble_eq_true rfl) (by rw [hR]; exact Nat.le_of_ble_eq_true rfl) (by rw [hR]; simp) (by rw [hR]; simp) dX3_meetOnOneLine_50 ?_
    refine lv_topi (fun t_5 et_5 => ?_)
    obtain rfl : t_5 = iMin by1p by1q := et_5
    refine lv_icmp_ne (tgt := 60) hx hb dX3_meetOnOneLine_53 (by decide) (fun c_6 => ?_) (fun c_6 => ?_)
    · skip
      refine lv_iconst (v := 0) hx hb dX3_meetOnOneLine_60 (by decide) ?_
      exact J_8 0 ls (lv_sub hl [0, 1, 2, 3, 4] rfl) (by rw [if_pos c_4, if_neg c_6])
    · skip
      refine lv_iconst (v := 1) hx hb dX3_meetOnOneLine_56 (by decide) ?_
      refine lv_goto (tgt := 61) hx hb dX3_meetOnOneLine_57 (by decide) ?_
      exact J_8 1 ls (lv_sub hl [0, 1, 2, 3, 4] rfl) (by rw [if_pos c_4, if_pos c_6])

def mtMeet (mx my fx1 fy1 tx1 ty1 bx0p by0p bx1p by1p fx2 fy2 tx2 ty2 bx0q by0q bx1q by1q : Int32) : Int32 × Int32 × Int32 := (if bxApart bx0p by0p bx1p by1p bx0q by0q bx1q by1q = false then (if (sgSide fx1 fy1 tx1 ty1 fx2 fy2) = 0 then (if (sgSide fx1 fy1 tx1 ty1 tx2 ty2) = 0 then ((mtLine mx my bx0p by0p bx1p by1p bx0q by0q bx1q by1q).1, (mtLine mx my bx0p by0p bx1p by1p bx0q by0q bx1q by1q).2.1, (mtLine mx my bx0p by0p bx1p by1p bx0q by0q bx1q by1q).2.2) else (if mtOne (sgSide fx1 fy1 tx1 ty1 fx2 fy2) (sgSide fx1 fy1 tx1 ty1 tx2 ty2) = false then (if mtOne (sgSide fx2 fy2 tx2 ty2 fx1 fy1) (sgSide fx2 fy2 tx2 ty2 tx1 ty1) = false then (if (sgSide fx1 fy1 tx1 ty1 fx2 fy2) = 0 then (2, fx2, fy2) else (if (sgSide fx1 fy1 tx1 ty1 tx2 ty2) = 0 then (2, tx2, ty2) else (if (sgSide fx2 fy2 tx2 ty2 fx1 fy1) = 0 then (2, fx1, fy1) else (if (sgSide fx2 fy2 tx2 ty2 tx1 ty1) = 0 then (2, tx1, ty1) else (1, mx, my))))) else (0, mx, my)) else (0, mx, my))) else (if mtOne (sgSide fx1 fy1 tx1 ty1 fx2 fy2) (sgSide fx1 fy1 tx1 ty1 tx2 ty2) = false then (if mtOne (sgSide fx2 fy2 tx2 ty2 fx1 fy1) (sgSide fx2 fy2 tx2 ty2 tx1 ty1) = false then (if (sgSide fx1 fy1 tx1 ty1 fx2 fy2) = 0 then (2, fx2, fy2) else (if (sgSide fx1 fy1 tx1 ty1 tx2 ty2) = 0 then (2, tx2, ty2) else (if (sgSide fx2 fy2 tx2 ty2 fx1 fy1) = 0 then (2, fx1, fy1) else (if (sgSide fx2 fy2 tx2 ty2 tx1 ty1) = 0 then (2, tx1, ty1) else (1, mx, my))))) else (0, mx, my)) else (0, mx, my))) else (0, mx, my))
set_option maxHeartbeats 4000000 in
set_option maxRecDepth 100000 in
theorem c_X3_meet (l : Launch) (D : va_G) (dT : Nat → ClassId) (ah : hA) (sz : Nat) (mt : Nat) (mx my : Int32) (hem : ah mt = some (.inr (3, [.int mx, .int my]))) (g1 rg1 bx1 nx1 : Nat) (no1 fx1 fy1 tx1 ty1 : Int32) (he1 : ah g1 = some (.inr (7, [.ref rg1, .int no1, .int fx1, .int fy1, .int tx1, .int ty1, .ref bx1, .ref nx1]))) (bx0p by0p bx1p by1p : Int32) (hebp : ah bx1 = some (.inr (0, [.int bx0p, .int by0p, .int bx1p, .int by1p]))) (g2 rg2 bx2 nx2 : Nat) (no2 fx2 fy2 tx2 ty2 : Int32) (he2 : ah g2 = some (.inr (7, [.ref rg2, .int no2, .int fx2, .int fy2, .int tx2, .int ty2, .ref bx2, .ref nx2]))) (bx0q by0q bx1q by1q : Int32) (hebq : ah bx2 = some (.inr (0, [.int bx0q, .int by0q, .int bx1q, .int by1q]))) : hMet l yX3_meet cX3_meet 11 (some .int) ({ frames := 2, cells := 0, slots := 0, locals := 49 }) D dT [.ref mt, .ref g1, .ref g2] ah sz (fun r ah2 => r = some (.int (mtMeet mx my fx1 fy1 tx1 ty1 bx0p by0p bx1p by1p fx2 fy2 tx2 ty2 bx0q by0q bx1q by1q).1) ∧ ah2 = hup ah mt (.inr (3, [.int (mtMeet mx my fx1 fy1 tx1 ty1 bx0p by0p bx1p by1p fx2 fy2 tx2 ty2 bx0q by0q bx1q by1q).2.1, .int (mtMeet mx my fx1 fy1 tx1 ty1 bx0p by0p bx1p by1p fx2 fy2 tx2 ty2 bx0q by0q bx1q by1q).2.2]))) 0 0 := by
  refine h_met (by decide) (Nat.le_of_ble_eq_true rfl) ?_
  intro p e s m below meth c ls R Q args hav hR hQ hB hl hsz hw
  obtain ⟨hx, hb, hml, hr, hts, hown, hlk, hin, hK⟩ := hB
  have hown : s.vm.findClass RX3 = some m.cls := hown
  have hl : lv_has ls 11 [(0, .ref mt), (1, .ref g1), (2, .ref g2)] := hl
  refine lv_aload_n hx hb dX3_meet_0 rfl (lv_at hl 1 rfl) ?_
  refine h_getN (ci := 7) (v := .ref bx1) (C := RX7) (T := TX7) (N := 8) hx hb hts kl_X7 hown hK hw he1 rfl 6 (by decide) (va_Nw.use rfl (hK.2.1 _ (List.mem_of_getElem? (i := 29) rfl))) rfl rfl dX3_meet_1 ?_
  refine lv_aload_n hx hb dX3_meet_4 rfl (lv_at hl 2 rfl) ?_
  refine h_getN (ci := 7) (v := .ref bx2) (C := RX7) (T := TX7) (N := 8) hx hb hts kl_X7 hown hK hw he2 rfl 6 (by decide) (va_Nw.use rfl (hK.2.1 _ (List.mem_of_getElem? (i := 29) rfl))) rfl rfl dX3_meet_5 ?_
  refine h_callV (n := 1) (ci := 0) (b := bx1) (As := [.ref bx2]) (rest := []) ⟨hx, hb, hml, hown, hts⟩ hK hw (c_X0_isApartFrom l D dT ah s.heap.size bx1 bx0p by0p bx1p by1p hebp bx2 bx0q by0q bx1q by1q hebq) ko_X0_isApartFrom km_X3_33 ki_X0_isApartFrom ks_X0_isApartFrom kn_X0 (by decide +kernel) rfl hebp rfl hl.1 rfl (by simp [Value.category]) dX3_meet_8 (by rw [hR]; exact ⟨rfl, rfl, Nat.le_of_ble_eq_true rfl, Nat.le_of_ble_eq_true rfl, by simp, by simp⟩) (fun r_1 ah_2 H_3 L_4 st_5 hp hw hst => ?_)
  obtain ⟨rfl, rfl⟩ := hp
  have hst : st_5 = [.int (bI (bxApart bx0p by0p bx1p by1p bx0q by0q bx1q by1q))] := hst
  subst hst
  refine lv_if_eq (tgt := 16) hx hb dX3_meet_11 (by decide) (fun c_6 => ?_) (fun c_6 => ?_)
  · skip
    have c_6 : bxApart bx0p by0p bx1p by1p bx0q by0q bx1q by1q = false := bI_0.mp c_6
    refine lv_aload_n hx hb dX3_meet_16 rfl (lv_at hl 1 rfl) ?_
    refine lv_aload_n hx hb dX3_meet_17 rfl (lv_at hl 2 rfl) ?_
    refine h_getN (ci := 7) (v := .int fx2) (C := RX7) (T := TX7) (N := 8) hx hb hts kl_X7 hown hK hw he2 rfl 2 (by decide) (va_Nw.use rfl (hK.2.1 _ (List.mem_of_getElem? (i := 20) rfl))) rfl rfl dX3_meet_18 ?_
    refine lv_aload_n hx hb dX3_meet_21 rfl (lv_at hl 2 rfl) ?_
    refine h_getN (ci := 7) (v := .int fy2) (C := RX7) (T := TX7) (N := 8) hx hb hts kl_X7 hown hK hw he2 rfl 3 (by decide) (va_Nw.use rfl (hK.2.1 _ (List.mem_of_getElem? (i := 23) rfl))) rfl rfl dX3_meet_22 ?_
    refine h_callV (n := 2) (ci := 7) (b := g1) (As := [.int fx2, .int fy2]) (rest := []) ⟨hx, hb, hml, hown, hts⟩ hK hw (c_X7_side l D dT ah H_3.size g1 rg1 bx1 (some nx1) no1 fx1 fy1 tx1 ty1 he1 fx2 fy2) ko_X7_side km_X3_46 ki_X7_side ks_X7_side kn_X7 (by decide +kernel) rfl he1 rfl hl.1 rfl (by simp [Value.category]) dX3_meet_25 (by rw [hR]; exact ⟨rfl, rfl, Nat.le_of_ble_eq_true rfl, Nat.le_of_ble_eq_true rfl, by simp, by simp⟩) (fun r_7 ah_8 H_9 L_10 st_11 hp hw hst => ?_)
    obtain ⟨rfl, rfl⟩ := hp
    have hst : st_11 = [.long (sgSide fx1 fy1 tx1 ty1 fx2 fy2)] := hst
    subst hst
    refine lv_lstore_n (lv' := [(3, .long (sgSide fx1 fy1 tx1 ty1 fx2 fy2)), (0, .ref mt), (1, .ref g1), (2, .ref g2)]) hx hb dX3_meet_28 rfl hl (by decide) rfl (fun ls hl => ?_)
    refine lv_aload_n hx hb dX3_meet_29 rfl (lv_at hl 2 rfl) ?_
    refine lv_aload_n hx hb dX3_meet_30 rfl (lv_at hl 3 rfl) ?_
    refine h_getN (ci := 7) (v := .int tx2) (C := RX7) (T := TX7) (N := 8) hx hb hts kl_X7 hown hK hw he2 rfl 4 (by decide) (va_Nw.use rfl (hK.2.1 _ (List.mem_of_getElem? (i := 26) rfl))) rfl rfl dX3_meet_31 ?_
    refine lv_aload_n hx hb dX3_meet_34 rfl (lv_at hl 3 rfl) ?_
    refine h_getN (ci := 7) (v := .int ty2) (C := RX7) (T := TX7) (N := 8) hx hb hts kl_X7 hown hK hw he2 rfl 5 (by decide) (va_Nw.use rfl (hK.2.1 _ (List.mem_of_getElem? (i := 28) rfl))) rfl rfl dX3_meet_35 ?_
    refine h_callV (n := 2) (ci := 7) (b := g1) (As := [.int tx2, .int ty2]) (rest := []) ⟨hx, hb, hml, hown, hts⟩ hK hw (c_X7_side l D dT ah H_9.size g1 rg1 bx1 (some nx1) no1 fx1 fy1 tx1 ty1 he1 tx2 ty2) ko_X7_side km_X3_46 ki_X7_side ks_X7_side kn_X7 (by decide +kernel) rfl he1 rfl hl.1 rfl (by simp [Value.category]) dX3_meet_38 (by rw [hR]; exact ⟨rfl, rfl, Nat.le_of_ble_eq_true rfl, Nat.le_of_ble_eq_true rfl, by simp, by simp⟩) (fun r_12 ah_13 H_14 L_15 st_16 hp hw hst => ?_)
    obtain ⟨rfl, rfl⟩ := hp
    have hst : st_16 = [.long (sgSide fx1 fy1 tx1 ty1 tx2 ty2)] := hst
    subst hst
    refine lv_lstore (lv' := [(5, .long (sgSide fx1 fy1 tx1 ty1 tx2 ty2)), (3, .long (sgSide fx1 fy1 tx1 ty1 fx2 fy2)), (0, .ref mt), (1, .ref g1), (2, .ref g2)]) hx hb dX3_meet_41 hl (by decide) rfl (fun ls hl => ?_)
    refine lv_lload_n hx hb dX3_meet_43 rfl (lv_at hl 1 rfl) ?_
    refine lv_lconst (v := 0) hx hb dX3_meet_44 (by decide) ?_
    refine W.lcmp hx hb dX3_meet_45 ?_
    refine lv_if_ne (tgt := 69) hx hb dX3_meet_46 (by decide) (fun c_17 => ?_) (fun c_17 => ?_)
    · skip
      have c_17 : ¬ ((sgSide fx1 fy1 tx1 ty1 fx2 fy2) = 0) := (not_congr lgc_eq).mp c_17
      refine lv_aload_n hx hb dX3_meet_69 rfl (lv_at hl 4 rfl) ?_
      refine lv_aload_n hx hb dX3_meet_70 rfl (lv_at hl 3 rfl) ?_
      refine h_getN (ci := 7) (v := .int fx1) (C := RX7) (T := TX7) (N := 8) hx hb hts kl_X7 hown hK hw he1 rfl 2 (by decide) (va_Nw.use rfl (hK.2.1 _ (List.mem_of_getElem? (i := 20) rfl))) rfl rfl dX3_meet_71 ?_
      refine lv_aload_n hx hb dX3_meet_74 rfl (lv_at hl 3 rfl) ?_
      refine h_getN (ci := 7) (v := .int fy1) (C := RX7) (T := TX7) (N := 8) hx hb hts kl_X7 hown hK hw he1 rfl 3 (by decide) (va_Nw.use rfl (hK.2.1 _ (List.mem_of_getElem? (i := 23) rfl))) rfl rfl dX3_meet_75 ?_
      refine h_callV (n := 2) (ci := 7) (b := g2) (As := [.int fx1, .int fy1]) (rest := []) ⟨hx, hb, hml, hown, hts⟩ hK hw (c_X7_side l D dT ah H_14.size g2 rg2 bx2 (some nx2) no2 fx2 fy2 tx2 ty2 he2 fx1 fy1) ko_X7_side km_X3_46 ki_X7_side ks_X7_side kn_X7 (by decide +kernel) rfl he2 rfl hl.1 rfl (by simp [Value.category]) dX3_meet_78 (by rw [hR]; exact ⟨rfl, rfl, Nat.le_of_ble_eq_true rfl, Nat.le_of_ble_eq_true rfl, by simp, by simp⟩) (fun r_18 ah_19 H_20 L_21 st_22 hp hw hst => ?_)
      obtain ⟨rfl, rfl⟩ := hp
      have hst : st_22 = [.long (sgSide fx2 fy2 tx2 ty2 fx1 fy1)] := hst
      subst hst
      refine lv_lstore (lv' := [(7, .long (sgSide fx2 fy2 tx2 ty2 fx1 fy1)), (5, .long (sgSide fx1 fy1 tx1 ty1 tx2 ty2)), (3, .long (sgSide fx1 fy1 tx1 ty1 fx2 fy2)), (0, .ref mt), (1, .ref g1), (2, .ref g2)]) hx hb dX3_meet_81 hl (by decide) rfl (fun ls hl => ?_)
      refine lv_aload_n hx hb dX3_meet_83 rfl (lv_at hl 5 rfl) ?_
      refine lv_aload_n hx hb dX3_meet_84 rfl (lv_at hl 4 rfl) ?_
      refine h_getN (ci := 7) (v := .int tx1) (C := RX7) (T := TX7) (N := 8) hx hb hts kl_X7 hown hK hw he1 rfl 4 (by decide) (va_Nw.use rfl (hK.2.1 _ (List.mem_of_getElem? (i := 26) rfl))) rfl rfl dX3_meet_85 ?_
      refine lv_aload_n hx hb dX3_meet_88 rfl (lv_at hl 4 rfl) ?_
      refine h_getN (ci := 7) (v := .int ty1) (C := RX7) (T := TX7) (N := 8) hx hb hts kl_X7 hown hK hw he1 rfl 5 (by decide) (va_Nw.use rfl (hK.2.1 _ (List.mem_of_getElem? (i := 28) rfl))) rfl rfl dX3_meet_89 ?_
      refine h_callV (n := 2) (ci := 7) (b := g2) (As := [.int tx1, .int ty1]) (rest := []) ⟨hx, hb, hml, hown, hts⟩ hK hw (c_X7_side l D dT ah H_20.size g2 rg2 bx2 (some nx2) no2 fx2 fy2 tx2 ty2 he2 tx1 ty1) ko_X7_side km_X3_46 ki_X7_side ks_X7_side kn_X7 (by decide +kernel) rfl he2 rfl hl.1 rfl (by simp [Value.category]) dX3_meet_92 (by rw [hR]; exact ⟨rfl, rfl, Nat.le_of_ble_eq_true rfl, Nat.le_of_ble_eq_true rfl, by simp, by simp⟩) (fun r_23 ah_24 H_25 L_26 st_27 hp hw hst => ?_)
      obtain ⟨rfl, rfl⟩ := hp
      have hst : st_27 = [.long (sgSide fx2 fy2 tx2 ty2 tx1 ty1)] := hst
      subst hst
      refine lv_lstore (lv' := [(9, .long (sgSide fx2 fy2 tx2 ty2 tx1 ty1)), (7, .long (sgSide fx2 fy2 tx2 ty2 fx1 fy1)), (5, .long (sgSide fx1 fy1 tx1 ty1 tx2 ty2)), (3, .long (sgSide fx1 fy1 tx1 ty1 fx2 fy2)), (0, .ref mt), (1, .ref g1), (2, .ref g2)]) hx hb dX3_meet_95 hl (by decide) rfl (fun ls hl => ?_)
      refine lv_lload_n hx hb dX3_meet_97 rfl (lv_at hl 3 rfl) ?_
      refine lv_lload hx hb dX3_meet_98 (lv_at hl 2 rfl) ?_
      refine h_callS (n := 2) (As := [.long (sgSide fx1 fy1 tx1 ty1 fx2 fy2), .long (sgSide fx1 fy1 tx1 ty1 tx2 ty2)]) (rest := []) ⟨hx, hb, hml, hown, hts⟩ hK hw (c_X3_isOneSide l D dT ah H_25.size (sgSide fx1 fy1 tx1 ty1 fx2 fy2) (sgSide fx1 fy1 tx1 ty1 tx2 ty2)) ko_X3_isOneSide km_X3_60 kt_X3_isOneSide kn_X3 (by decide +kernel) rfl hl.1 rfl (by simp [Value.category]) dX3_meet_100 (by rw [hR]; exact ⟨rfl, rfl, Nat.le_of_ble_eq_true rfl, Nat.le_of_ble_eq_true rfl, by simp, by simp⟩) (fun r_28 ah_29 H_30 L_31 st_32 hp hw hst => ?_)
      obtain ⟨rfl, rfl⟩ := hp
      have hst : st_32 = [.int (bI (mtOne (sgSide fx1 fy1 tx1 ty1 fx2 fy2) (sgSide fx1 fy1 tx1 ty1 tx2 ty2)))] := hst
      subst hst
      refine lv_if_ne (tgt := 116) hx hb dX3_meet_103 (by decide) (fun c_33 => ?_) (fun c_33 => ?_)
      · skip
        have c_33 : ¬ (mtOne (sgSide fx1 fy1 tx1 ty1 fx2 fy2) (sgSide fx1 fy1 tx1 ty1 tx2 ty2) = false) := (not_congr bI_0).mp c_33
        refine lv_iconst (v := 0) hx hb dX3_meet_116 (by decide) ?_
        have hv : (0, mx, my) = mtMeet mx my fx1 fy1 tx1 ty1 bx0p by0p bx1p by1p fx2 fy2 tx2 ty2 bx0q by0q bx1q by1q := by
          unfold mtMeet
          all_goals rw [if_pos c_6, if_neg c_17, if_neg c_33]
        have hh : ah = hup ah mt (.inr (3, [.int mx, .int my])) := by first | exact (hup_id hem).symm | (subst_vars; simp only [hup_hup])
        rw [hQ]
        exact h_iret hx hb hr hlk hsz hw (by simp) (by simp) dX3_meet_117 ⟨congrArg (a₁ := (0, mx, my)) (a₂ := mtMeet mx my fx1 fy1 tx1 ty1 bx0p by0p bx1p by1p fx2 fy2 tx2 ty2 bx0q by0q bx1q by1q) (fun z : Int32 × Int32 × Int32 => some (Value.int z.1)) hv, hh.trans (congrArg (a₁ := (0, mx, my)) (a₂ := mtMeet mx my fx1 fy1 tx1 ty1 bx0p by0p bx1p by1p fx2 fy2 tx2 ty2 bx0q by0q bx1q by1q) (fun z : Int32 × Int32 × Int32 => hup ah mt (.inr (3, [.int z.2.1, .int z.2.2]))) hv)⟩
      · skip
        have c_33 : mtOne (sgSide fx1 fy1 tx1 ty1 fx2 fy2) (sgSide fx1 fy1 tx1 ty1 tx2 ty2) = false := bI_0.mp c_33
        refine lv_lload hx hb dX3_meet_106 (lv_at hl 1 rfl) ?_
        refine lv_lload hx hb dX3_meet_108 (lv_at hl 0 rfl) ?_
        refine h_callS (n := 2) (As := [.long (sgSide fx2 fy2 tx2 ty2 fx1 fy1), .long (sgSide fx2 fy2 tx2 ty2 tx1 ty1)]) (rest := []) ⟨hx, hb, hml, hown, hts⟩ hK hw (c_X3_isOneSide l D dT ah H_30.size (sgSide fx2 fy2 tx2 ty2 fx1 fy1) (sgSide fx2 fy2 tx2 ty2 tx1 ty1)) ko_X3_isOneSide km_X3_60 kt_X3_isOneSide kn_X3 (by decide +kernel) rfl hl.1 rfl (by simp [Value.category]) dX3_meet_110 (by rw [hR]; exact ⟨rfl, rfl, Nat.le_of_ble_eq_true rfl, Nat.le_of_ble_eq_true rfl, by simp, by simp⟩) (fun r_34 ah_35 H_36 L_37 st_38 hp hw hst => ?_)
        obtain ⟨rfl, rfl⟩ := hp
        have hst : st_38 = [.int (bI (mtOne (sgSide fx2 fy2 tx2 ty2 fx1 fy1) (sgSide fx2 fy2 tx2 ty2 tx1 ty1)))] := hst
        subst hst
        refine lv_if_eq (tgt := 118) hx hb dX3_meet_113 (by decide) (fun c_39 => ?_) (fun c_39 => ?_)
        · skip
          have c_39 : mtOne (sgSide fx2 fy2 tx2 ty2 fx1 fy1) (sgSide fx2 fy2 tx2 ty2 tx1 ty1) = false := bI_0.mp c_39
          refine lv_lload_n hx hb dX3_meet_118 rfl (lv_at hl 3 rfl) ?_
          refine lv_lconst (v := 0) hx hb dX3_meet_119 (by decide) ?_
          refine W.lcmp hx hb dX3_meet_120 ?_
          refine lv_if_ne (tgt := 137) hx hb dX3_meet_121 (by decide) (fun c_40 => ?_) (fun c_40 => ?_)
          · skip
            have c_40 : ¬ ((sgSide fx1 fy1 tx1 ty1 fx2 fy2) = 0) := (not_congr lgc_eq).mp c_40
            refine lv_lload hx hb dX3_meet_137 (lv_at hl 2 rfl) ?_
            refine lv_lconst (v := 0) hx hb dX3_meet_139 (by decide) ?_
            refine W.lcmp hx hb dX3_meet_140 ?_
            refine lv_if_ne (tgt := 157) hx hb dX3_meet_141 (by decide) (fun c_41 => ?_) (fun c_41 => ?_)
            · skip
              have c_41 : ¬ ((sgSide fx1 fy1 tx1 ty1 tx2 ty2) = 0) := (not_congr lgc_eq).mp c_41
              refine lv_lload hx hb dX3_meet_157 (lv_at hl 1 rfl) ?_
              refine lv_lconst (v := 0) hx hb dX3_meet_159 (by decide) ?_
              refine W.lcmp hx hb dX3_meet_160 ?_
              refine lv_if_ne (tgt := 177) hx hb dX3_meet_161 (by decide) (fun c_42 => ?_) (fun c_42 => ?_)
              · skip
                have c_42 : ¬ ((sgSide fx2 fy2 tx2 ty2 fx1 fy1) = 0) := (not_congr lgc_eq).mp c_42
                refine lv_lload hx hb dX3_meet_177 (lv_at hl 0 rfl) ?_
                refine lv_lconst (v := 0) hx hb dX3_meet_179 (by decide) ?_
                refine W.lcmp hx hb dX3_meet_180 ?_
                refine lv_if_ne (tgt := 199) hx hb dX3_meet_181 (by decide) (fun c_43 => ?_) (fun c_43 => ?_)
                · skip
                  have c_43 : ¬ ((sgSide fx2 fy2 tx2 ty2 tx1 ty1) = 0) := (not_congr lgc_eq).mp c_43
                  refine lv_iconst (v := 1) hx hb dX3_meet_199 (by decide) ?_
                  have hv : (1, mx, my) = mtMeet mx my fx1 fy1 tx1 ty1 bx0p by0p bx1p by1p fx2 fy2 tx2 ty2 bx0q by0q bx1q by1q := by
                    unfold mtMeet
                    all_goals rw [if_pos c_6, if_neg c_17, if_pos c_33, if_pos c_39, if_neg c_40, if_neg c_41, if_neg c_42, if_neg c_43]
                  have hh : ah = hup ah mt (.inr (3, [.int mx, .int my])) := by first | exact (hup_id hem).symm | (subst_vars; simp only [hup_hup])
                  rw [hQ]
                  exact h_iret hx hb hr hlk hsz hw (by simp) (by simp) dX3_meet_200 ⟨congrArg (a₁ := (1, mx, my)) (a₂ := mtMeet mx my fx1 fy1 tx1 ty1 bx0p by0p bx1p by1p fx2 fy2 tx2 ty2 bx0q by0q bx1q by1q) (fun z : Int32 × Int32 × Int32 => some (Value.int z.1)) hv, hh.trans (congrArg (a₁ := (1, mx, my)) (a₂ := mtMeet mx my fx1 fy1 tx1 ty1 bx0p by0p bx1p by1p fx2 fy2 tx2 ty2 bx0q by0q bx1q by1q) (fun z : Int32 × Int32 × Int32 => hup ah mt (.inr (3, [.int z.2.1, .int z.2.2]))) hv)⟩
                · skip
                  have c_43 : (sgSide fx2 fy2 tx2 ty2 tx1 ty1) = 0 := lgc_eq.mp c_43
                  refine lv_aload_n hx hb dX3_meet_184 rfl (lv_at hl 4 rfl) ?_
                  refine lv_aload_n hx hb dX3_meet_185 rfl (lv_at hl 5 rfl) ?_
                  refine h_getN (ci := 7) (v := .int tx1) (C := RX7) (T := TX7) (N := 8) hx hb hts kl_X7 hown hK hw he1 rfl 4 (by decide) (va_Nw.use rfl (hK.2.1 _ (List.mem_of_getElem? (i := 26) rfl))) rfl rfl dX3_meet_186 ?_
                  refine lv_aload_n hx hb dX3_meet_189 rfl (lv_at hl 5 rfl) ?_
                  refine h_getN (ci := 7) (v := .int ty1) (C := RX7) (T := TX7) (N := 8) hx hb hts kl_X7 hown hK hw he1 rfl 5 (by decide) (va_Nw.use rfl (hK.2.1 _ (List.mem_of_getElem? (i := 28) rfl))) rfl rfl dX3_meet_190 ?_
                  refine h_callV (n := 2) (ci := 3) (b := mt) (As := [.int tx1, .int ty1]) (rest := []) ⟨hx, hb, hml, hown, hts⟩ hK hw (c_X3_meetAt l D dT ah H_36.size mt mx my hem tx1 ty1) ko_X3_meetAt km_X3_64 ki_X3_meetAt ks_X3_meetAt kn_X3 (by decide +kernel) rfl hem rfl hl.1 rfl (by simp [Value.category]) dX3_meet_193 (by rw [hR]; exact ⟨rfl, rfl, Nat.le_of_ble_eq_true rfl, Nat.le_of_ble_eq_true rfl, by simp, by simp⟩) (fun r_44 ah_45 H_46 L_47 st_48 hp hw hst => ?_)
                  obtain ⟨rfl, eah_45⟩ := hp
                  have hc_49 : ah_45 mt = some (.inr (3, [.int tx1, .int ty1])) := by rw [eah_45]; exact hup_s
                  have hc_50 := (show ah_45 g1 = _ from (by rw [eah_45]; exact hup_n (h_ne he1 hem (by simp)))).trans he1
                  have hc_51 := (show ah_45 bx1 = _ from (by rw [eah_45]; exact hup_n (h_ne hebp hem (by simp)))).trans hebp
                  have hc_52 := (show ah_45 g2 = _ from (by rw [eah_45]; exact hup_n (h_ne he2 hem (by simp)))).trans he2
                  have hc_53 := (show ah_45 bx2 = _ from (by rw [eah_45]; exact hup_n (h_ne hebq hem (by simp)))).trans hebq
                  have hst : st_48 = [.int 2] := hst
                  subst hst
                  refine lv_goto (tgt := 200) hx hb dX3_meet_196 (by decide) ?_
                  have hv : (2, tx1, ty1) = mtMeet mx my fx1 fy1 tx1 ty1 bx0p by0p bx1p by1p fx2 fy2 tx2 ty2 bx0q by0q bx1q by1q := by
                    unfold mtMeet
                    all_goals rw [if_pos c_6, if_neg c_17, if_pos c_33, if_pos c_39, if_neg c_40, if_neg c_41, if_neg c_42, if_pos c_43]
                  have hh : ah_45 = hup ah mt (.inr (3, [.int tx1, .int ty1])) := by first | exact (hup_id hem).symm | (subst_vars; simp only [hup_hup])
                  rw [hQ]
                  exact h_iret hx hb hr hlk hsz hw (by simp) (by simp) dX3_meet_200 ⟨congrArg (a₁ := (2, tx1, ty1)) (a₂ := mtMeet mx my fx1 fy1 tx1 ty1 bx0p by0p bx1p by1p fx2 fy2 tx2 ty2 bx0q by0q bx1q by1q) (fun z : Int32 × Int32 × Int32 => some (Value.int z.1)) hv, hh.trans (congrArg (a₁ := (2, tx1, ty1)) (a₂ := mtMeet mx my fx1 fy1 tx1 ty1 bx0p by0p bx1p by1p fx2 fy2 tx2 ty2 bx0q by0q bx1q by1q) (fun z : Int32 × Int32 × Int32 => hup ah mt (.inr (3, [.int z.2.1, .int z.2.2]))) hv)⟩
              · skip
                have c_42 : (sgSide fx2 fy2 tx2 ty2 fx1 fy1) = 0 := lgc_eq.mp c_42
                refine lv_aload_n hx hb dX3_meet_164 rfl (lv_at hl 4 rfl) ?_
                refine lv_aload_n hx hb dX3_meet_165 rfl (lv_at hl 5 rfl) ?_
                refine h_getN (ci := 7) (v := .int fx1) (C := RX7) (T := TX7) (N := 8) hx hb hts kl_X7 hown hK hw he1 rfl 2 (by decide) (va_Nw.use rfl (hK.2.1 _ (List.mem_of_getElem? (i := 20) rfl))) rfl rfl dX3_meet_166 ?_
                refine lv_aload_n hx hb dX3_meet_169 rfl (lv_at hl 5 rfl) ?_
                refine h_getN (ci := 7) (v := .int fy1) (C := RX7) (T := TX7) (N := 8) hx hb hts kl_X7 hown hK hw he1 rfl 3 (by decide) (va_Nw.use rfl (hK.2.1 _ (List.mem_of_getElem? (i := 23) rfl))) rfl rfl dX3_meet_170 ?_
                refine h_callV (n := 2) (ci := 3) (b := mt) (As := [.int fx1, .int fy1]) (rest := []) ⟨hx, hb, hml, hown, hts⟩ hK hw (c_X3_meetAt l D dT ah H_36.size mt mx my hem fx1 fy1) ko_X3_meetAt km_X3_64 ki_X3_meetAt ks_X3_meetAt kn_X3 (by decide +kernel) rfl hem rfl hl.1 rfl (by simp [Value.category]) dX3_meet_173 (by rw [hR]; exact ⟨rfl, rfl, Nat.le_of_ble_eq_true rfl, Nat.le_of_ble_eq_true rfl, by simp, by simp⟩) (fun r_54 ah_55 H_56 L_57 st_58 hp hw hst => ?_)
                obtain ⟨rfl, eah_55⟩ := hp
                have hc_59 : ah_55 mt = some (.inr (3, [.int fx1, .int fy1])) := by rw [eah_55]; exact hup_s
                have hc_60 := (show ah_55 g1 = _ from (by rw [eah_55]; exact hup_n (h_ne he1 hem (by simp)))).trans he1
                have hc_61 := (show ah_55 bx1 = _ from (by rw [eah_55]; exact hup_n (h_ne hebp hem (by simp)))).trans hebp
                have hc_62 := (show ah_55 g2 = _ from (by rw [eah_55]; exact hup_n (h_ne he2 hem (by simp)))).trans he2
                have hc_63 := (show ah_55 bx2 = _ from (by rw [eah_55]; exact hup_n (h_ne hebq hem (by simp)))).trans hebq
                have hst : st_58 = [.int 2] := hst
                subst hst
                have hv : (2, fx1, fy1) = mtMeet mx my fx1 fy1 tx1 ty1 bx0p by0p bx1p by1p fx2 fy2 tx2 ty2 bx0q by0q bx1q by1q := by
                  unfold mtMeet
                  all_goals rw [if_pos c_6, if_neg c_17, if_pos c_33, if_pos c_39, if_neg c_40, if_neg c_41, if_pos c_42]
                have hh : ah_55 = hup ah mt (.inr (3, [.int fx1, .int fy1])) := by first | exact (hup_id hem).symm | (subst_vars; simp only [hup_hup])
                rw [hQ]
                exact h_iret hx hb hr hlk hsz hw (by simp) (by simp) dX3_meet_176 ⟨congrArg (a₁ := (2, fx1, fy1)) (a₂ := mtMeet mx my fx1 fy1 tx1 ty1 bx0p by0p bx1p by1p fx2 fy2 tx2 ty2 bx0q by0q bx1q by1q) (fun z : Int32 × Int32 × Int32 => some (Value.int z.1)) hv, hh.trans (congrArg (a₁ := (2, fx1, fy1)) (a₂ := mtMeet mx my fx1 fy1 tx1 ty1 bx0p by0p bx1p by1p fx2 fy2 tx2 ty2 bx0q by0q bx1q by1q) (fun z : Int32 × Int32 × Int32 => hup ah mt (.inr (3, [.int z.2.1, .int z.2.2]))) hv)⟩
            · skip
              have c_41 : (sgSide fx1 fy1 tx1 ty1 tx2 ty2) = 0 := lgc_eq.mp c_41
              refine lv_aload_n hx hb dX3_meet_144 rfl (lv_at hl 4 rfl) ?_
              refine lv_aload_n hx hb dX3_meet_145 rfl (lv_at hl 6 rfl) ?_
              refine h_getN (ci := 7) (v := .int tx2) (C := RX7) (T := TX7) (N := 8) hx hb hts kl_X7 hown hK hw he2 rfl 4 (by decide) (va_Nw.use rfl (hK.2.1 _ (List.mem_of_getElem? (i := 26) rfl))) rfl rfl dX3_meet_146 ?_
              refine lv_aload_n hx hb dX3_meet_149 rfl (lv_at hl 6 rfl) ?_
              refine h_getN (ci := 7) (v := .int ty2) (C := RX7) (T := TX7) (N := 8) hx hb hts kl_X7 hown hK hw he2 rfl 5 (by decide) (va_Nw.use rfl (hK.2.1 _ (List.mem_of_getElem? (i := 28) rfl))) rfl rfl dX3_meet_150 ?_
              refine h_callV (n := 2) (ci := 3) (b := mt) (As := [.int tx2, .int ty2]) (rest := []) ⟨hx, hb, hml, hown, hts⟩ hK hw (c_X3_meetAt l D dT ah H_36.size mt mx my hem tx2 ty2) ko_X3_meetAt km_X3_64 ki_X3_meetAt ks_X3_meetAt kn_X3 (by decide +kernel) rfl hem rfl hl.1 rfl (by simp [Value.category]) dX3_meet_153 (by rw [hR]; exact ⟨rfl, rfl, Nat.le_of_ble_eq_true rfl, Nat.le_of_ble_eq_true rfl, by simp, by simp⟩) (fun r_64 ah_65 H_66 L_67 st_68 hp hw hst => ?_)
              obtain ⟨rfl, eah_65⟩ := hp
              have hc_69 : ah_65 mt = some (.inr (3, [.int tx2, .int ty2])) := by rw [eah_65]; exact hup_s
              have hc_70 := (show ah_65 g1 = _ from (by rw [eah_65]; exact hup_n (h_ne he1 hem (by simp)))).trans he1
              have hc_71 := (show ah_65 bx1 = _ from (by rw [eah_65]; exact hup_n (h_ne hebp hem (by simp)))).trans hebp
              have hc_72 := (show ah_65 g2 = _ from (by rw [eah_65]; exact hup_n (h_ne he2 hem (by simp)))).trans he2
              have hc_73 := (show ah_65 bx2 = _ from (by rw [eah_65]; exact hup_n (h_ne hebq hem (by simp)))).trans hebq
              have hst : st_68 = [.int 2] := hst
              subst hst
              have hv : (2, tx2, ty2) = mtMeet mx my fx1 fy1 tx1 ty1 bx0p by0p bx1p by1p fx2 fy2 tx2 ty2 bx0q by0q bx1q by1q := by
                unfold mtMeet
                all_goals rw [if_pos c_6, if_neg c_17, if_pos c_33, if_pos c_39, if_neg c_40, if_pos c_41]
              have hh : ah_65 = hup ah mt (.inr (3, [.int tx2, .int ty2])) := by first | exact (hup_id hem).symm | (subst_vars; simp only [hup_hup])
              rw [hQ]
              exact h_iret hx hb hr hlk hsz hw (by simp) (by simp) dX3_meet_156 ⟨congrArg (a₁ := (2, tx2, ty2)) (a₂ := mtMeet mx my fx1 fy1 tx1 ty1 bx0p by0p bx1p by1p fx2 fy2 tx2 ty2 bx0q by0q bx1q by1q) (fun z : Int32 × Int32 × Int32 => some (Value.int z.1)) hv, hh.trans (congrArg (a₁ := (2, tx2, ty2)) (a₂ := mtMeet mx my fx1 fy1 tx1 ty1 bx0p by0p bx1p by1p fx2 fy2 tx2 ty2 bx0q by0q bx1q by1q) (fun z : Int32 × Int32 × Int32 => hup ah mt (.inr (3, [.int z.2.1, .int z.2.2]))) hv)⟩
          · skip
            have c_40 : (sgSide fx1 fy1 tx1 ty1 fx2 fy2) = 0 := lgc_eq.mp c_40
            refine lv_aload_n hx hb dX3_meet_124 rfl (lv_at hl 4 rfl) ?_
            refine lv_aload_n hx hb dX3_meet_125 rfl (lv_at hl 6 rfl) ?_
            refine h_getN (ci := 7) (v := .int fx2) (C := RX7) (T := TX7) (N := 8) hx hb hts kl_X7 hown hK hw he2 rfl 2 (by decide) (va_Nw.use rfl (hK.2.1 _ (List.mem_of_getElem? (i := 20) rfl))) rfl rfl dX3_meet_126 ?_
            refine lv_aload_n hx hb dX3_meet_129 rfl (lv_at hl 6 rfl) ?_
            refine h_getN (ci := 7) (v := .int fy2) (C := RX7) (T := TX7) (N := 8) hx hb hts kl_X7 hown hK hw he2 rfl 3 (by decide) (va_Nw.use rfl (hK.2.1 _ (List.mem_of_getElem? (i := 23) rfl))) rfl rfl dX3_meet_130 ?_
            refine h_callV (n := 2) (ci := 3) (b := mt) (As := [.int fx2, .int fy2]) (rest := []) ⟨hx, hb, hml, hown, hts⟩ hK hw (c_X3_meetAt l D dT ah H_36.size mt mx my hem fx2 fy2) ko_X3_meetAt km_X3_64 ki_X3_meetAt ks_X3_meetAt kn_X3 (by decide +kernel) rfl hem rfl hl.1 rfl (by simp [Value.category]) dX3_meet_133 (by rw [hR]; exact ⟨rfl, rfl, Nat.le_of_ble_eq_true rfl, Nat.le_of_ble_eq_true rfl, by simp, by simp⟩) (fun r_74 ah_75 H_76 L_77 st_78 hp hw hst => ?_)
            obtain ⟨rfl, eah_75⟩ := hp
            have hc_79 : ah_75 mt = some (.inr (3, [.int fx2, .int fy2])) := by rw [eah_75]; exact hup_s
            have hc_80 := (show ah_75 g1 = _ from (by rw [eah_75]; exact hup_n (h_ne he1 hem (by simp)))).trans he1
            have hc_81 := (show ah_75 bx1 = _ from (by rw [eah_75]; exact hup_n (h_ne hebp hem (by simp)))).trans hebp
            have hc_82 := (show ah_75 g2 = _ from (by rw [eah_75]; exact hup_n (h_ne he2 hem (by simp)))).trans he2
            have hc_83 := (show ah_75 bx2 = _ from (by rw [eah_75]; exact hup_n (h_ne hebq hem (by simp)))).trans hebq
            have hst : st_78 = [.int 2] := hst
            subst hst
            have hv : (2, fx2, fy2) = mtMeet mx my fx1 fy1 tx1 ty1 bx0p by0p bx1p by1p fx2 fy2 tx2 ty2 bx0q by0q bx1q by1q := by
              unfold mtMeet
              all_goals rw [if_pos c_6, if_neg c_17, if_pos c_33, if_pos c_39, if_pos c_40]
            have hh : ah_75 = hup ah mt (.inr (3, [.int fx2, .int fy2])) := by first | exact (hup_id hem).symm | (subst_vars; simp only [hup_hup])
            rw [hQ]
            exact h_iret hx hb hr hlk hsz hw (by simp) (by simp) dX3_meet_136 ⟨congrArg (a₁ := (2, fx2, fy2)) (a₂ := mtMeet mx my fx1 fy1 tx1 ty1 bx0p by0p bx1p by1p fx2 fy2 tx2 ty2 bx0q by0q bx1q by1q) (fun z : Int32 × Int32 × Int32 => some (Value.int z.1)) hv, hh.trans (congrArg (a₁ := (2, fx2, fy2)) (a₂ := mtMeet mx my fx1 fy1 tx1 ty1 bx0p by0p bx1p by1p fx2 fy2 tx2 ty2 bx0q by0q bx1q by1q) (fun z : Int32 × Int32 × Int32 => hup ah mt (.inr (3, [.int z.2.1, .int z.2.2]))) hv)⟩
        · skip
          have c_39 : ¬ (mtOne (sgSide fx2 fy2 tx2 ty2 fx1 fy1) (sgSide fx2 fy2 tx2 ty2 tx1 ty1) = false) := (not_congr bI_0).mp c_39
          refine lv_iconst (v := 0) hx hb dX3_meet_116 (by decide) ?_
          have hv : (0, mx, my) = mtMeet mx my fx1 fy1 tx1 ty1 bx0p by0p bx1p by1p fx2 fy2 tx2 ty2 bx0q by0q bx1q by1q := by
            unfold mtMeet
            all_goals rw [if_pos c_6, if_neg c_17, if_pos c_33, if_neg c_39]
          have hh : ah = hup ah mt (.inr (3, [.int mx, .int my])) := by first | exact (hup_id hem).symm | (subst_vars; simp only [hup_hup])
          rw [hQ]
          exact h_iret hx hb hr hlk hsz hw (by simp) (by simp) dX3_meet_117 ⟨congrArg (a₁ := (0, mx, my)) (a₂ := mtMeet mx my fx1 fy1 tx1 ty1 bx0p by0p bx1p by1p fx2 fy2 tx2 ty2 bx0q by0q bx1q by1q) (fun z : Int32 × Int32 × Int32 => some (Value.int z.1)) hv, hh.trans (congrArg (a₁ := (0, mx, my)) (a₂ := mtMeet mx my fx1 fy1 tx1 ty1 bx0p by0p bx1p by1p fx2 fy2 tx2 ty2 bx0q by0q bx1q by1q) (fun z : Int32 × Int32 × Int32 => hup ah mt (.inr (3, [.int z.2.1, .int z.2.2]))) hv)⟩
    · skip
      have c_17 : (sgSide fx1 fy1 tx1 ty1 fx2 fy2) = 0 := lgc_eq.mp c_17
      refine lv_lload hx hb dX3_meet_49 (lv_at hl 0 rfl) ?_
      refine lv_lconst (v := 0) hx hb dX3_meet_51 (by decide) ?_
      refine W.lcmp hx hb dX3_meet_52 ?_
      refine lv_if_ne (tgt := 69) hx hb dX3_meet_53 (by decide) (fun c_84 => ?_) (fun c_84 => ?_)
      · skip
        have c_84 : ¬ ((sgSide fx1 fy1 tx1 ty1 tx2 ty2) = 0) := (not_congr lgc_eq).mp c_84
        refine lv_aload_n hx hb dX3_meet_69 rfl (lv_at hl 4 rfl) ?_
        refine lv_aload_n hx hb dX3_meet_70 rfl (lv_at hl 3 rfl) ?_
        refine h_getN (ci := 7) (v := .int fx1) (C := RX7) (T := TX7) (N := 8) hx hb hts kl_X7 hown hK hw he1 rfl 2 (by decide) (va_Nw.use rfl (hK.2.1 _ (List.mem_of_getElem? (i := 20) rfl))) rfl rfl dX3_meet_71 ?_
        refine lv_aload_n hx hb dX3_meet_74 rfl (lv_at hl 3 rfl) ?_
        refine h_getN (ci := 7) (v := .int fy1) (C := RX7) (T := TX7) (N := 8) hx hb hts kl_X7 hown hK hw he1 rfl 3 (by decide) (va_Nw.use rfl (hK.2.1 _ (List.mem_of_getElem? (i := 23) rfl))) rfl rfl dX3_meet_75 ?_
        refine h_callV (n := 2) (ci := 7) (b := g2) (As := [.int fx1, .int fy1]) (rest := []) ⟨hx, hb, hml, hown, hts⟩ hK hw (c_X7_side l D dT ah H_14.size g2 rg2 bx2 (some nx2) no2 fx2 fy2 tx2 ty2 he2 fx1 fy1) ko_X7_side km_X3_46 ki_X7_side ks_X7_side kn_X7 (by decide +kernel) rfl he2 rfl hl.1 rfl (by simp [Value.category]) dX3_meet_78 (by rw [hR]; exact ⟨rfl, rfl, Nat.le_of_ble_eq_true rfl, Nat.le_of_ble_eq_true rfl, by simp, by simp⟩) (fun r_85 ah_86 H_87 L_88 st_89 hp hw hst => ?_)
        obtain ⟨rfl, rfl⟩ := hp
        have hst : st_89 = [.long (sgSide fx2 fy2 tx2 ty2 fx1 fy1)] := hst
        subst hst
        refine lv_lstore (lv' := [(7, .long (sgSide fx2 fy2 tx2 ty2 fx1 fy1)), (5, .long (sgSide fx1 fy1 tx1 ty1 tx2 ty2)), (3, .long (sgSide fx1 fy1 tx1 ty1 fx2 fy2)), (0, .ref mt), (1, .ref g1), (2, .ref g2)]) hx hb dX3_meet_81 hl (by decide) rfl (fun ls hl => ?_)
        refine lv_aload_n hx hb dX3_meet_83 rfl (lv_at hl 5 rfl) ?_
        refine lv_aload_n hx hb dX3_meet_84 rfl (lv_at hl 4 rfl) ?_
        refine h_getN (ci := 7) (v := .int tx1) (C := RX7) (T := TX7) (N := 8) hx hb hts kl_X7 hown hK hw he1 rfl 4 (by decide) (va_Nw.use rfl (hK.2.1 _ (List.mem_of_getElem? (i := 26) rfl))) rfl rfl dX3_meet_85 ?_
        refine lv_aload_n hx hb dX3_meet_88 rfl (lv_at hl 4 rfl) ?_
        refine h_getN (ci := 7) (v := .int ty1) (C := RX7) (T := TX7) (N := 8) hx hb hts kl_X7 hown hK hw he1 rfl 5 (by decide) (va_Nw.use rfl (hK.2.1 _ (List.mem_of_getElem? (i := 28) rfl))) rfl rfl dX3_meet_89 ?_
        refine h_callV (n := 2) (ci := 7) (b := g2) (As := [.int tx1, .int ty1]) (rest := []) ⟨hx, hb, hml, hown, hts⟩ hK hw (c_X7_side l D dT ah H_87.size g2 rg2 bx2 (some nx2) no2 fx2 fy2 tx2 ty2 he2 tx1 ty1) ko_X7_side km_X3_46 ki_X7_side ks_X7_side kn_X7 (by decide +kernel) rfl he2 rfl hl.1 rfl (by simp [Value.category]) dX3_meet_92 (by rw [hR]; exact ⟨rfl, rfl, Nat.le_of_ble_eq_true rfl, Nat.le_of_ble_eq_true rfl, by simp, by simp⟩) (fun r_90 ah_91 H_92 L_93 st_94 hp hw hst => ?_)
        obtain ⟨rfl, rfl⟩ := hp
        have hst : st_94 = [.long (sgSide fx2 fy2 tx2 ty2 tx1 ty1)] := hst
        subst hst
        refine lv_lstore (lv' := [(9, .long (sgSide fx2 fy2 tx2 ty2 tx1 ty1)), (7, .long (sgSide fx2 fy2 tx2 ty2 fx1 fy1)), (5, .long (sgSide fx1 fy1 tx1 ty1 tx2 ty2)), (3, .long (sgSide fx1 fy1 tx1 ty1 fx2 fy2)), (0, .ref mt), (1, .ref g1), (2, .ref g2)]) hx hb dX3_meet_95 hl (by decide) rfl (fun ls hl => ?_)
        refine lv_lload_n hx hb dX3_meet_97 rfl (lv_at hl 3 rfl) ?_
        refine lv_lload hx hb dX3_meet_98 (lv_at hl 2 rfl) ?_
        refine h_callS (n := 2) (As := [.long (sgSide fx1 fy1 tx1 ty1 fx2 fy2), .long (sgSide fx1 fy1 tx1 ty1 tx2 ty2)]) (rest := []) ⟨hx, hb, hml, hown, hts⟩ hK hw (c_X3_isOneSide l D dT ah H_92.size (sgSide fx1 fy1 tx1 ty1 fx2 fy2) (sgSide fx1 fy1 tx1 ty1 tx2 ty2)) ko_X3_isOneSide km_X3_60 kt_X3_isOneSide kn_X3 (by decide +kernel) rfl hl.1 rfl (by simp [Value.category]) dX3_meet_100 (by rw [hR]; exact ⟨rfl, rfl, Nat.le_of_ble_eq_true rfl, Nat.le_of_ble_eq_true rfl, by simp, by simp⟩) (fun r_95 ah_96 H_97 L_98 st_99 hp hw hst => ?_)
        obtain ⟨rfl, rfl⟩ := hp
        have hst : st_99 = [.int (bI (mtOne (sgSide fx1 fy1 tx1 ty1 fx2 fy2) (sgSide fx1 fy1 tx1 ty1 tx2 ty2)))] := hst
        subst hst
        refine lv_if_ne (tgt := 116) hx hb dX3_meet_103 (by decide) (fun c_100 => ?_) (fun c_100 => ?_)
        · skip
          have c_100 : ¬ (mtOne (sgSide fx1 fy1 tx1 ty1 fx2 fy2) (sgSide fx1 fy1 tx1 ty1 tx2 ty2) = false) := (not_congr bI_0).mp c_100
          refine lv_iconst (v := 0) hx hb dX3_meet_116 (by decide) ?_
          have hv : (0, mx, my) = mtMeet mx my fx1 fy1 tx1 ty1 bx0p by0p bx1p by1p fx2 fy2 tx2 ty2 bx0q by0q bx1q by1q := by
            unfold mtMeet
            all_goals rw [if_pos c_6, if_pos c_17, if_neg c_84, if_neg c_100]
          have hh : ah = hup ah mt (.inr (3, [.int mx, .int my])) := by first | exact (hup_id hem).symm | (subst_vars; simp only [hup_hup])
          rw [hQ]
          exact h_iret hx hb hr hlk hsz hw (by simp) (by simp) dX3_meet_117 ⟨congrArg (a₁ := (0, mx, my)) (a₂ := mtMeet mx my fx1 fy1 tx1 ty1 bx0p by0p bx1p by1p fx2 fy2 tx2 ty2 bx0q by0q bx1q by1q) (fun z : Int32 × Int32 × Int32 => some (Value.int z.1)) hv, hh.trans (congrArg (a₁ := (0, mx, my)) (a₂ := mtMeet mx my fx1 fy1 tx1 ty1 bx0p by0p bx1p by1p fx2 fy2 tx2 ty2 bx0q by0q bx1q by1q) (fun z : Int32 × Int32 × Int32 => hup ah mt (.inr (3, [.int z.2.1, .int z.2.2]))) hv)⟩
        · skip
          have c_100 : mtOne (sgSide fx1 fy1 tx1 ty1 fx2 fy2) (sgSide fx1 fy1 tx1 ty1 tx2 ty2) = false := bI_0.mp c_100
          refine lv_lload hx hb dX3_meet_106 (lv_at hl 1 rfl) ?_
          refine lv_lload hx hb dX3_meet_108 (lv_at hl 0 rfl) ?_
          refine h_callS (n := 2) (As := [.long (sgSide fx2 fy2 tx2 ty2 fx1 fy1), .long (sgSide fx2 fy2 tx2 ty2 tx1 ty1)]) (rest := []) ⟨hx, hb, hml, hown, hts⟩ hK hw (c_X3_isOneSide l D dT ah H_97.size (sgSide fx2 fy2 tx2 ty2 fx1 fy1) (sgSide fx2 fy2 tx2 ty2 tx1 ty1)) ko_X3_isOneSide km_X3_60 kt_X3_isOneSide kn_X3 (by decide +kernel) rfl hl.1 rfl (by simp [Value.category]) dX3_meet_110 (by rw [hR]; exact ⟨rfl, rfl, Nat.le_of_ble_eq_true rfl, Nat.le_of_ble_eq_true rfl, by simp, by simp⟩) (fun r_101 ah_102 H_103 L_104 st_105 hp hw hst => ?_)
          obtain ⟨rfl, rfl⟩ := hp
          have hst : st_105 = [.int (bI (mtOne (sgSide fx2 fy2 tx2 ty2 fx1 fy1) (sgSide fx2 fy2 tx2 ty2 tx1 ty1)))] := hst
          subst hst
          refine lv_if_eq (tgt := 118) hx hb dX3_meet_113 (by decide) (fun c_106 => ?_) (fun c_106 => ?_)
          · skip
            have c_106 : mtOne (sgSide fx2 fy2 tx2 ty2 fx1 fy1) (sgSide fx2 fy2 tx2 ty2 tx1 ty1) = false := bI_0.mp c_106
            refine lv_lload_n hx hb dX3_meet_118 rfl (lv_at hl 3 rfl) ?_
            refine lv_lconst (v := 0) hx hb dX3_meet_119 (by decide) ?_
            refine W.lcmp hx hb dX3_meet_120 ?_
            refine lv_if_ne (tgt := 137) hx hb dX3_meet_121 (by decide) (fun c_107 => ?_) (fun c_107 => ?_)
            · skip
              have c_107 : ¬ ((sgSide fx1 fy1 tx1 ty1 fx2 fy2) = 0) := (not_congr lgc_eq).mp c_107
              refine lv_lload hx hb dX3_meet_137 (lv_at hl 2 rfl) ?_
              refine lv_lconst (v := 0) hx hb dX3_meet_139 (by decide) ?_
              refine W.lcmp hx hb dX3_meet_140 ?_
              refine lv_if_ne (tgt := 157) hx hb dX3_meet_141 (by decide) (fun c_108 => ?_) (fun c_108 => ?_)
              · skip
                have c_108 : ¬ ((sgSide fx1 fy1 tx1 ty1 tx2 ty2) = 0) := (not_congr lgc_eq).mp c_108
                refine lv_lload hx hb dX3_meet_157 (lv_at hl 1 rfl) ?_
                refine lv_lconst (v := 0) hx hb dX3_meet_159 (by decide) ?_
                refine W.lcmp hx hb dX3_meet_160 ?_
                refine lv_if_ne (tgt := 177) hx hb dX3_meet_161 (by decide) (fun c_109 => ?_) (fun c_109 => ?_)
                · skip
                  have c_109 : ¬ ((sgSide fx2 fy2 tx2 ty2 fx1 fy1) = 0) := (not_congr lgc_eq).mp c_109
                  refine lv_lload hx hb dX3_meet_177 (lv_at hl 0 rfl) ?_
                  refine lv_lconst (v := 0) hx hb dX3_meet_179 (by decide) ?_
                  refine W.lcmp hx hb dX3_meet_180 ?_
                  refine lv_if_ne (tgt := 199) hx hb dX3_meet_181 (by decide) (fun c_110 => ?_) (fun c_110 => ?_)
                  · skip
                    have c_110 : ¬ ((sgSide fx2 fy2 tx2 ty2 tx1 ty1) = 0) := (not_congr lgc_eq).mp c_110
                    refine lv_iconst (v := 1) hx hb dX3_meet_199 (by decide) ?_
                    have hv : (1, mx, my) = mtMeet mx my fx1 fy1 tx1 ty1 bx0p by0p bx1p by1p fx2 fy2 tx2 ty2 bx0q by0q bx1q by1q := by
                      unfold mtMeet
                      all_goals rw [if_pos c_6, if_pos c_17, if_neg c_84, if_pos c_100, if_pos c_106, if_neg c_107, if_neg c_108, if_neg c_109, if_neg c_110]
                    have hh : ah = hup ah mt (.inr (3, [.int mx, .int my])) := by first | exact (hup_id hem).symm | (subst_vars; simp only [hup_hup])
                    rw [hQ]
                    exact h_iret hx hb hr hlk hsz hw (by simp) (by simp) dX3_meet_200 ⟨congrArg (a₁ := (1, mx, my)) (a₂ := mtMeet mx my fx1 fy1 tx1 ty1 bx0p by0p bx1p by1p fx2 fy2 tx2 ty2 bx0q by0q bx1q by1q) (fun z : Int32 × Int32 × Int32 => some (Value.int z.1)) hv, hh.trans (congrArg (a₁ := (1, mx, my)) (a₂ := mtMeet mx my fx1 fy1 tx1 ty1 bx0p by0p bx1p by1p fx2 fy2 tx2 ty2 bx0q by0q bx1q by1q) (fun z : Int32 × Int32 × Int32 => hup ah mt (.inr (3, [.int z.2.1, .int z.2.2]))) hv)⟩
                  · skip
                    have c_110 : (sgSide fx2 fy2 tx2 ty2 tx1 ty1) = 0 := lgc_eq.mp c_110
                    refine lv_aload_n hx hb dX3_meet_184 rfl (lv_at hl 4 rfl) ?_
                    refine lv_aload_n hx hb dX3_meet_185 rfl (lv_at hl 5 rfl) ?_
                    refine h_getN (ci := 7) (v := .int tx1) (C := RX7) (T := TX7) (N := 8) hx hb hts kl_X7 hown hK hw he1 rfl 4 (by decide) (va_Nw.use rfl (hK.2.1 _ (List.mem_of_getElem? (i := 26) rfl))) rfl rfl dX3_meet_186 ?_
                    refine lv_aload_n hx hb dX3_meet_189 rfl (lv_at hl 5 rfl) ?_
                    refine h_getN (ci := 7) (v := .int ty1) (C := RX7) (T := TX7) (N := 8) hx hb hts kl_X7 hown hK hw he1 rfl 5 (by decide) (va_Nw.use rfl (hK.2.1 _ (List.mem_of_getElem? (i := 28) rfl))) rfl rfl dX3_meet_190 ?_
                    refine h_callV (n := 2) (ci := 3) (b := mt) (As := [.int tx1, .int ty1]) (rest := []) ⟨hx, hb, hml, hown, hts⟩ hK hw (c_X3_meetAt l D dT ah H_103.size mt mx my hem tx1 ty1) ko_X3_meetAt km_X3_64 ki_X3_meetAt ks_X3_meetAt kn_X3 (by decide +kernel) rfl hem rfl hl.1 rfl (by simp [Value.category]) dX3_meet_193 (by rw [hR]; exact ⟨rfl, rfl, Nat.le_of_ble_eq_true rfl, Nat.le_of_ble_eq_true rfl, by simp, by simp⟩) (fun r_111 ah_112 H_113 L_114 st_115 hp hw hst => ?_)
                    obtain ⟨rfl, eah_112⟩ := hp
                    have hc_116 : ah_112 mt = some (.inr (3, [.int tx1, .int ty1])) := by rw [eah_112]; exact hup_s
                    have hc_117 := (show ah_112 g1 = _ from (by rw [eah_112]; exact hup_n (h_ne he1 hem (by simp)))).trans he1
                    have hc_118 := (show ah_112 bx1 = _ from (by rw [eah_112]; exact hup_n (h_ne hebp hem (by simp)))).trans hebp
                    have hc_119 := (show ah_112 g2 = _ from (by rw [eah_112]; exact hup_n (h_ne he2 hem (by simp)))).trans he2
                    have hc_120 := (show ah_112 bx2 = _ from (by rw [eah_112]; exact hup_n (h_ne hebq hem (by simp)))).trans hebq
                    have hst : st_115 = [.int 2] := hst
                    subst hst
                    refine lv_goto (tgt := 200) hx hb dX3_meet_196 (by decide) ?_
                    have hv : (2, tx1, ty1) = mtMeet mx my fx1 fy1 tx1 ty1 bx0p by0p bx1p by1p fx2 fy2 tx2 ty2 bx0q by0q bx1q by1q := by
                      unfold mtMeet
                      all_goals rw [if_pos c_6, if_pos c_17, if_neg c_84, if_pos c_100, if_pos c_106, if_neg c_107, if_neg c_108, if_neg c_109, if_pos c_110]
                    have hh : ah_112 = hup ah mt (.inr (3, [.int tx1, .int ty1])) := by first | exact (hup_id hem).symm | (subst_vars; simp only [hup_hup])
                    rw [hQ]
                    exact h_iret hx hb hr hlk hsz hw (by simp) (by simp) dX3_meet_200 ⟨congrArg (a₁ := (2, tx1, ty1)) (a₂ := mtMeet mx my fx1 fy1 tx1 ty1 bx0p by0p bx1p by1p fx2 fy2 tx2 ty2 bx0q by0q bx1q by1q) (fun z : Int32 × Int32 × Int32 => some (Value.int z.1)) hv, hh.trans (congrArg (a₁ := (2, tx1, ty1)) (a₂ := mtMeet mx my fx1 fy1 tx1 ty1 bx0p by0p bx1p by1p fx2 fy2 tx2 ty2 bx0q by0q bx1q by1q) (fun z : Int32 × Int32 × Int32 => hup ah mt (.inr (3, [.int z.2.1, .int z.2.2]))) hv)⟩
                · skip
                  have c_109 : (sgSide fx2 fy2 tx2 ty2 fx1 fy1) = 0 := lgc_eq.mp c_109
                  refine lv_aload_n hx hb dX3_meet_164 rfl (lv_at hl 4 rfl) ?_
                  refine lv_aload_n hx hb dX3_meet_165 rfl (lv_at hl 5 rfl) ?_
                  refine h_getN (ci := 7) (v := .int fx1) (C := RX7) (T := TX7) (N := 8) hx hb hts kl_X7 hown hK hw he1 rfl 2 (by decide) (va_Nw.use rfl (hK.2.1 _ (List.mem_of_getElem? (i := 20) rfl))) rfl rfl dX3_meet_166 ?_
                  refine lv_aload_n hx hb dX3_meet_169 rfl (lv_at hl 5 rfl) ?_
                  refine h_getN (ci := 7) (v := .int fy1) (C := RX7) (T := TX7) (N := 8) hx hb hts kl_X7 hown hK hw he1 rfl 3 (by decide) (va_Nw.use rfl (hK.2.1 _ (List.mem_of_getElem? (i := 23) rfl))) rfl rfl dX3_meet_170 ?_
                  refine h_callV (n := 2) (ci := 3) (b := mt) (As := [.int fx1, .int fy1]) (rest := []) ⟨hx, hb, hml, hown, hts⟩ hK hw (c_X3_meetAt l D dT ah H_103.size mt mx my hem fx1 fy1) ko_X3_meetAt km_X3_64 ki_X3_meetAt ks_X3_meetAt kn_X3 (by decide +kernel) rfl hem rfl hl.1 rfl (by simp [Value.category]) dX3_meet_173 (by rw [hR]; exact ⟨rfl, rfl, Nat.le_of_ble_eq_true rfl, Nat.le_of_ble_eq_true rfl, by simp, by simp⟩) (fun r_121 ah_122 H_123 L_124 st_125 hp hw hst => ?_)
                  obtain ⟨rfl, eah_122⟩ := hp
                  have hc_126 : ah_122 mt = some (.inr (3, [.int fx1, .int fy1])) := by rw [eah_122]; exact hup_s
                  have hc_127 := (show ah_122 g1 = _ from (by rw [eah_122]; exact hup_n (h_ne he1 hem (by simp)))).trans he1
                  have hc_128 := (show ah_122 bx1 = _ from (by rw [eah_122]; exact hup_n (h_ne hebp hem (by simp)))).trans hebp
                  have hc_129 := (show ah_122 g2 = _ from (by rw [eah_122]; exact hup_n (h_ne he2 hem (by simp)))).trans he2
                  have hc_130 := (show ah_122 bx2 = _ from (by rw [eah_122]; exact hup_n (h_ne hebq hem (by simp)))).trans hebq
                  have hst : st_125 = [.int 2] := hst
                  subst hst
                  have hv : (2, fx1, fy1) = mtMeet mx my fx1 fy1 tx1 ty1 bx0p by0p bx1p by1p fx2 fy2 tx2 ty2 bx0q by0q bx1q by1q := by
                    unfold mtMeet
                    all_goals rw [if_pos c_6, if_pos c_17, if_neg c_84, if_pos c_100, if_pos c_106, if_neg c_107, if_neg c_108, if_pos c_109]
                  have hh : ah_122 = hup ah mt (.inr (3, [.int fx1, .int fy1])) := by first | exact (hup_id hem).symm | (subst_vars; simp only [hup_hup])
                  rw [hQ]
                  exact h_iret hx hb hr hlk hsz hw (by simp) (by simp) dX3_meet_176 ⟨congrArg (a₁ := (2, fx1, fy1)) (a₂ := mtMeet mx my fx1 fy1 tx1 ty1 bx0p by0p bx1p by1p fx2 fy2 tx2 ty2 bx0q by0q bx1q by1q) (fun z : Int32 × Int32 × Int32 => some (Value.int z.1)) hv, hh.trans (congrArg (a₁ := (2, fx1, fy1)) (a₂ := mtMeet mx my fx1 fy1 tx1 ty1 bx0p by0p bx1p by1p fx2 fy2 tx2 ty2 bx0q by0q bx1q by1q) (fun z : Int32 × Int32 × Int32 => hup ah mt (.inr (3, [.int z.2.1, .int z.2.2]))) hv)⟩
              · skip
                have c_108 : (sgSide fx1 fy1 tx1 ty1 tx2 ty2) = 0 := lgc_eq.mp c_108
                refine lv_aload_n hx hb dX3_meet_144 rfl (lv_at hl 4 rfl) ?_
                refine lv_aload_n hx hb dX3_meet_145 rfl (lv_at hl 6 rfl) ?_
                refine h_getN (ci := 7) (v := .int tx2) (C := RX7) (T := TX7) (N := 8) hx hb hts kl_X7 hown hK hw he2 rfl 4 (by decide) (va_Nw.use rfl (hK.2.1 _ (List.mem_of_getElem? (i := 26) rfl))) rfl rfl dX3_meet_146 ?_
                refine lv_aload_n hx hb dX3_meet_149 rfl (lv_at hl 6 rfl) ?_
                refine h_getN (ci := 7) (v := .int ty2) (C := RX7) (T := TX7) (N := 8) hx hb hts kl_X7 hown hK hw he2 rfl 5 (by decide) (va_Nw.use rfl (hK.2.1 _ (List.mem_of_getElem? (i := 28) rfl))) rfl rfl dX3_meet_150 ?_
                refine h_callV (n := 2) (ci := 3) (b := mt) (As := [.int tx2, .int ty2]) (rest := []) ⟨hx, hb, hml, hown, hts⟩ hK hw (c_X3_meetAt l D dT ah H_103.size mt mx my hem tx2 ty2) ko_X3_meetAt km_X3_64 ki_X3_meetAt ks_X3_meetAt kn_X3 (by decide +kernel) rfl hem rfl hl.1 rfl (by simp [Value.category]) dX3_meet_153 (by rw [hR]; exact ⟨rfl, rfl, Nat.le_of_ble_eq_true rfl, Nat.le_of_ble_eq_true rfl, by simp, by simp⟩) (fun r_131 ah_132 H_133 L_134 st_135 hp hw hst => ?_)
                obtain ⟨rfl, eah_132⟩ := hp
                have hc_136 : ah_132 mt = some (.inr (3, [.int tx2, .int ty2])) := by rw [eah_132]; exact hup_s
                have hc_137 := (show ah_132 g1 = _ from (by rw [eah_132]; exact hup_n (h_ne he1 hem (by simp)))).trans he1
                have hc_138 := (show ah_132 bx1 = _ from (by rw [eah_132]; exact hup_n (h_ne hebp hem (by simp)))).trans hebp
                have hc_139 := (show ah_132 g2 = _ from (by rw [eah_132]; exact hup_n (h_ne he2 hem (by simp)))).trans he2
                have hc_140 := (show ah_132 bx2 = _ from (by rw [eah_132]; exact hup_n (h_ne hebq hem (by simp)))).trans hebq
                have hst : st_135 = [.int 2] := hst
                subst hst
                have hv : (2, tx2, ty2) = mtMeet mx my fx1 fy1 tx1 ty1 bx0p by0p bx1p by1p fx2 fy2 tx2 ty2 bx0q by0q bx1q by1q := by
                  unfold mtMeet
                  all_goals rw [if_pos c_6, if_pos c_17, if_neg c_84, if_pos c_100, if_pos c_106, if_neg c_107, if_pos c_108]
                have hh : ah_132 = hup ah mt (.inr (3, [.int tx2, .int ty2])) := by first | exact (hup_id hem).symm | (subst_vars; simp only [hup_hup])
                rw [hQ]
                exact h_iret hx hb hr hlk hsz hw (by simp) (by simp) dX3_meet_156 ⟨congrArg (a₁ := (2, tx2, ty2)) (a₂ := mtMeet mx my fx1 fy1 tx1 ty1 bx0p by0p bx1p by1p fx2 fy2 tx2 ty2 bx0q by0q bx1q by1q) (fun z : Int32 × Int32 × Int32 => some (Value.int z.1)) hv, hh.trans (congrArg (a₁ := (2, tx2, ty2)) (a₂ := mtMeet mx my fx1 fy1 tx1 ty1 bx0p by0p bx1p by1p fx2 fy2 tx2 ty2 bx0q by0q bx1q by1q) (fun z : Int32 × Int32 × Int32 => hup ah mt (.inr (3, [.int z.2.1, .int z.2.2]))) hv)⟩
            · skip
              have c_107 : (sgSide fx1 fy1 tx1 ty1 fx2 fy2) = 0 := lgc_eq.mp c_107
              refine lv_aload_n hx hb dX3_meet_124 rfl (lv_at hl 4 rfl) ?_
              refine lv_aload_n hx hb dX3_meet_125 rfl (lv_at hl 6 rfl) ?_
              refine h_getN (ci := 7) (v := .int fx2) (C := RX7) (T := TX7) (N := 8) hx hb hts kl_X7 hown hK hw he2 rfl 2 (by decide) (va_Nw.use rfl (hK.2.1 _ (List.mem_of_getElem? (i := 20) rfl))) rfl rfl dX3_meet_126 ?_
              refine lv_aload_n hx hb dX3_meet_129 rfl (lv_at hl 6 rfl) ?_
              refine h_getN (ci := 7) (v := .int fy2) (C := RX7) (T := TX7) (N := 8) hx hb hts kl_X7 hown hK hw he2 rfl 3 (by decide) (va_Nw.use rfl (hK.2.1 _ (List.mem_of_getElem? (i := 23) rfl))) rfl rfl dX3_meet_130 ?_
              refine h_callV (n := 2) (ci := 3) (b := mt) (As := [.int fx2, .int fy2]) (rest := []) ⟨hx, hb, hml, hown, hts⟩ hK hw (c_X3_meetAt l D dT ah H_103.size mt mx my hem fx2 fy2) ko_X3_meetAt km_X3_64 ki_X3_meetAt ks_X3_meetAt kn_X3 (by decide +kernel) rfl hem rfl hl.1 rfl (by simp [Value.category]) dX3_meet_133 (by rw [hR]; exact ⟨rfl, rfl, Nat.le_of_ble_eq_true rfl, Nat.le_of_ble_eq_true rfl, by simp, by simp⟩) (fun r_141 ah_142 H_143 L_144 st_145 hp hw hst => ?_)
              obtain ⟨rfl, eah_142⟩ := hp
              have hc_146 : ah_142 mt = some (.inr (3, [.int fx2, .int fy2])) := by rw [eah_142]; exact hup_s
              have hc_147 := (show ah_142 g1 = _ from (by rw [eah_142]; exact hup_n (h_ne he1 hem (by simp)))).trans he1
              have hc_148 := (show ah_142 bx1 = _ from (by rw [eah_142]; exact hup_n (h_ne hebp hem (by simp)))).trans hebp
              have hc_149 := (show ah_142 g2 = _ from (by rw [eah_142]; exact hup_n (h_ne he2 hem (by simp)))).trans he2
              have hc_150 := (show ah_142 bx2 = _ from (by rw [eah_142]; exact hup_n (h_ne hebq hem (by simp)))).trans hebq
              have hst : st_145 = [.int 2] := hst
              subst hst
              have hv : (2, fx2, fy2) = mtMeet mx my fx1 fy1 tx1 ty1 bx0p by0p bx1p by1p fx2 fy2 tx2 ty2 bx0q by0q bx1q by1q := by
                unfold mtMeet
                all_goals rw [if_pos c_6, if_pos c_17, if_neg c_84, if_pos c_100, if_pos c_106, if_pos c_107]
              have hh : ah_142 = hup ah mt (.inr (3, [.int fx2, .int fy2])) := by first | exact (hup_id hem).symm | (subst_vars; simp only [hup_hup])
              rw [hQ]
              exact h_iret hx hb hr hlk hsz hw (by simp) (by simp) dX3_meet_136 ⟨congrArg (a₁ := (2, fx2, fy2)) (a₂ := mtMeet mx my fx1 fy1 tx1 ty1 bx0p by0p bx1p by1p fx2 fy2 tx2 ty2 bx0q by0q bx1q by1q) (fun z : Int32 × Int32 × Int32 => some (Value.int z.1)) hv, hh.trans (congrArg (a₁ := (2, fx2, fy2)) (a₂ := mtMeet mx my fx1 fy1 tx1 ty1 bx0p by0p bx1p by1p fx2 fy2 tx2 ty2 bx0q by0q bx1q by1q) (fun z : Int32 × Int32 × Int32 => hup ah mt (.inr (3, [.int z.2.1, .int z.2.2]))) hv)⟩
          · skip
            have c_106 : ¬ (mtOne (sgSide fx2 fy2 tx2 ty2 fx1 fy1) (sgSide fx2 fy2 tx2 ty2 tx1 ty1) = false) := (not_congr bI_0).mp c_106
            refine lv_iconst (v := 0) hx hb dX3_meet_116 (by decide) ?_
            have hv : (0, mx, my) = mtMeet mx my fx1 fy1 tx1 ty1 bx0p by0p bx1p by1p fx2 fy2 tx2 ty2 bx0q by0q bx1q by1q := by
              unfold mtMeet
              all_goals rw [if_pos c_6, if_pos c_17, if_neg c_84, if_pos c_100, if_neg c_106]
            have hh : ah = hup ah mt (.inr (3, [.int mx, .int my])) := by first | exact (hup_id hem).symm | (subst_vars; simp only [hup_hup])
            rw [hQ]
            exact h_iret hx hb hr hlk hsz hw (by simp) (by simp) dX3_meet_117 ⟨congrArg (a₁ := (0, mx, my)) (a₂ := mtMeet mx my fx1 fy1 tx1 ty1 bx0p by0p bx1p by1p fx2 fy2 tx2 ty2 bx0q by0q bx1q by1q) (fun z : Int32 × Int32 × Int32 => some (Value.int z.1)) hv, hh.trans (congrArg (a₁ := (0, mx, my)) (a₂ := mtMeet mx my fx1 fy1 tx1 ty1 bx0p by0p bx1p by1p fx2 fy2 tx2 ty2 bx0q by0q bx1q by1q) (fun z : Int32 × Int32 × Int32 => hup ah mt (.inr (3, [.int z.2.1, .int z.2.2]))) hv)⟩
      · skip
        have c_84 : (sgSide fx1 fy1 tx1 ty1 tx2 ty2) = 0 := lgc_eq.mp c_84
        refine lv_aload_n hx hb dX3_meet_56 rfl (lv_at hl 2 rfl) ?_
        refine lv_aload_n hx hb dX3_meet_57 rfl (lv_at hl 3 rfl) ?_
        refine h_getN (ci := 7) (v := .ref bx1) (C := RX7) (T := TX7) (N := 8) hx hb hts kl_X7 hown hK hw he1 rfl 6 (by decide) (va_Nw.use rfl (hK.2.1 _ (List.mem_of_getElem? (i := 29) rfl))) rfl rfl dX3_meet_58 ?_
        refine lv_aload_n hx hb dX3_meet_61 rfl (lv_at hl 4 rfl) ?_
        refine h_getN (ci := 7) (v := .ref bx2) (C := RX7) (T := TX7) (N := 8) hx hb hts kl_X7 hown hK hw he2 rfl 6 (by decide) (va_Nw.use rfl (hK.2.1 _ (List.mem_of_getElem? (i := 29) rfl))) rfl rfl dX3_meet_62 ?_
        refine h_callV (n := 2) (ci := 3) (b := mt) (As := [.ref bx1, .ref bx2]) (rest := []) ⟨hx, hb, hml, hown, hts⟩ hK hw (c_X3_meetOnOneLine l D dT ah H_14.size mt mx my hem bx1 bx0p by0p bx1p by1p hebp bx2 bx0q by0q bx1q by1q hebq) ko_X3_meetOnOneLine km_X3_56 ki_X3_meetOnOneLine ks_X3_meetOnOneLine kn_X3 (by decide +kernel) rfl hem rfl hl.1 rfl (by simp [Value.category]) dX3_meet_65 (by rw [hR]; exact ⟨rfl, rfl, Nat.le_of_ble_eq_true rfl, Nat.le_of_ble_eq_true rfl, by simp, by simp⟩) (fun r_151 ah_152 H_153 L_154 st_155 hp hw hst => ?_)
        obtain ⟨rfl, eah_152⟩ := hp
        have hc_156 : ah_152 mt = some (.inr (3, [.int ((mtLine mx my bx0p by0p bx1p by1p bx0q by0q bx1q by1q).2.1), .int ((mtLine mx my bx0p by0p bx1p by1p bx0q by0q bx1q by1q).2.2)])) := by rw [eah_152]; exact hup_s
        have hc_157 := (show ah_152 g1 = _ from (by rw [eah_152]; exact hup_n (h_ne he1 hem (by simp)))).trans he1
        have hc_158 := (show ah_152 bx1 = _ from (by rw [eah_152]; exact hup_n (h_ne hebp hem (by simp)))).trans hebp
        have hc_159 := (show ah_152 g2 = _ from (by rw [eah_152]; exact hup_n (h_ne he2 hem (by simp)))).trans he2
        have hc_160 := (show ah_152 bx2 = _ from (by rw [eah_152]; exact hup_n (h_ne hebq hem (by simp)))).trans hebq
        have hst : st_155 = [.int ((mtLine mx my bx0p by0p bx1p by1p bx0q by0q bx1q by1q).1)] := hst
        subst hst
        have hv : ((mtLine mx my bx0p by0p bx1p by1p bx0q by0q bx1q by1q).1, (mtLine mx my bx0p by0p bx1p by1p bx0q by0q bx1q by1q).2.1, (mtLine mx my bx0p by0p bx1p by1p bx0q by0q bx1q by1q).2.2) = mtMeet mx my fx1 fy1 tx1 ty1 bx0p by0p bx1p by1p fx2 fy2 tx2 ty2 bx0q by0q bx1q by1q := by
          unfold mtMeet
          all_goals rw [if_pos c_6, if_pos c_17, if_pos c_84]
        have hh : ah_152 = hup ah mt (.inr (3, [.int ((mtLine mx my bx0p by0p bx1p by1p bx0q by0q bx1q by1q).2.1), .int ((mtLine mx my bx0p by0p bx1p by1p bx0q by0q bx1q by1q).2.2)])) := by first | exact (hup_id hem).symm | (subst_vars; simp only [hup_hup])
        rw [hQ]
        exact h_iret hx hb hr hlk hsz hw (by simp) (by simp) dX3_meet_68 ⟨congrArg (a₁ := ((mtLine mx my bx0p by0p bx1p by1p bx0q by0q bx1q by1q).1, (mtLine mx my bx0p by0p bx1p by1p bx0q by0q bx1q by1q).2.1, (mtLine mx my bx0p by0p bx1p by1p bx0q by0q bx1q by1q).2.2)) (a₂ := mtMeet mx my fx1 fy1 tx1 ty1 bx0p by0p bx1p by1p fx2 fy2 tx2 ty2 bx0q by0q bx1q by1q) (fun z : Int32 × Int32 × Int32 => some (Value.int z.1)) hv, hh.trans (congrArg (a₁ := ((mtLine mx my bx0p by0p bx1p by1p bx0q by0q bx1q by1q).1, (mtLine mx my bx0p by0p bx1p by1p bx0q by0q bx1q by1q).2.1, (mtLine mx my bx0p by0p bx1p by1p bx0q by0q bx1q by1q).2.2)) (a₂ := mtMeet mx my fx1 fy1 tx1 ty1 bx0p by0p bx1p by1p fx2 fy2 tx2 ty2 bx0q by0q bx1q by1q) (fun z : Int32 × Int32 × Int32 => hup ah mt (.inr (3, [.int z.2.1, .int z.2.2]))) hv)⟩
  · skip
    have c_6 : ¬ (bxApart bx0p by0p bx1p by1p bx0q by0q bx1q by1q = false) := (not_congr bI_0).mp c_6
    refine lv_iconst (v := 0) hx hb dX3_meet_14 (by decide) ?_
    have hv : (0, mx, my) = mtMeet mx my fx1 fy1 tx1 ty1 bx0p by0p bx1p by1p fx2 fy2 tx2 ty2 bx0q by0q bx1q by1q := by
      unfold mtMeet
      all_goals rw [if_neg c_6]
    have hh : ah = hup ah mt (.inr (3, [.int mx, .int my])) := by first | exact (hup_id hem).symm | (subst_vars; simp only [hup_hup])
    rw [hQ]
    exact h_iret hx hb hr hlk hsz hw (by simp) (by simp) dX3_meet_15 ⟨congrArg (a₁ := (0, mx, my)) (a₂ := mtMeet mx my fx1 fy1 tx1 ty1 bx0p by0p bx1p by1p fx2 fy2 tx2 ty2 bx0q by0q bx1q by1q) (fun z : Int32 × Int32 × Int32 => some (Value.int z.1)) hv, hh.trans (congrArg (a₁ := (0, mx, my)) (a₂ := mtMeet mx my fx1 fy1 tx1 ty1 bx0p by0p bx1p by1p fx2 fy2 tx2 ty2 bx0q by0q bx1q by1q) (fun z : Int32 × Int32 × Int32 => hup ah mt (.inr (3, [.int z.2.1, .int z.2.2]))) hv)⟩

def mtCross (mx my fx1 fy1 tx1 ty1 tx3 ty3 fx2 fy2 tx2 ty2 tx4 ty4 : Int32) : Bool := (if sgBegins fx1 fy1 mx my = false then (if sgBegins fx2 fy2 mx my = false then (if ((if tx2 = mx then (if ty2 = my then 1 else 0) else 0) : Int32) = 0 then (if bI (sgLeft fx1 fy1 tx1 ty1 tx3 ty3 mx my fx2 fy2) = bI (sgLeft fx1 fy1 tx1 ty1 tx3 ty3 mx my tx2 ty2) then false else true) else (if bI (sgLeft fx1 fy1 tx1 ty1 tx3 ty3 mx my fx2 fy2) = bI (sgLeft fx1 fy1 tx1 ty1 tx3 ty3 mx my tx4 ty4) then false else true)) else false) else false)
set_option maxHeartbeats 4000000 in
set_option maxRecDepth 100000 in
theorem c_X3_ringsCross (l : Launch) (D : va_G) (dT : Nat → ClassId) (ah : hA) (sz : Nat) (mt : Nat) (mx my : Int32) (hem : ah mt = some (.inr (3, [.int mx, .int my]))) (g1 rg1 bx1 nx1 : Nat) (no1 fx1 fy1 tx1 ty1 : Int32) (he1 : ah g1 = some (.inr (7, [.ref rg1, .int no1, .int fx1, .int fy1, .int tx1, .int ty1, .ref bx1, .ref nx1]))) (rg3 bx3 nx3 : Nat) (no3 fx3 fy3 tx3 ty3 : Int32) (he3 : ah nx1 = some (.inr (7, [.ref rg3, .int no3, .int fx3, .int fy3, .int tx3, .int ty3, .ref bx3, .ref nx3]))) (g2 rg2 bx2 nx2 : Nat) (no2 fx2 fy2 tx2 ty2 : Int32) (he2 : ah g2 = some (.inr (7, [.ref rg2, .int no2, .int fx2, .int fy2, .int tx2, .int ty2, .ref bx2, .ref nx2]))) (rg4 bx4 nx4 : Nat) (no4 fx4 fy4 tx4 ty4 : Int32) (he4 : ah nx2 = some (.inr (7, [.ref rg4, .int no4, .int fx4, .int fy4, .int tx4, .int ty4, .ref bx4, .ref nx4]))) : hMet l yX3_ringsCross cX3_ringsCross 7 (some .boolean) ({ frames := 1, cells := 0, slots := 0, locals := 42 }) D dT [.ref mt, .ref g1, .ref g2] ah sz (fun r ah2 => r = some (.int (bI (mtCross mx my fx1 fy1 tx1 ty1 tx3 ty3 fx2 fy2 tx2 ty2 tx4 ty4))) ∧ ah = ah2) 0 0 := by
  refine h_met (by decide) (Nat.le_of_ble_eq_true rfl) ?_
  intro p e s m below meth c ls R Q args hav hR hQ hB hl hsz hw
  obtain ⟨hx, hb, hml, hr, hts, hown, hlk, hin, hK⟩ := hB
  have hown : s.vm.findClass RX3 = some m.cls := hown
  have hl : lv_has ls 7 [(0, .ref mt), (1, .ref g1), (2, .ref g2)] := hl
  refine lv_aload_n hx hb dX3_ringsCross_0 rfl (lv_at hl 1 rfl) ?_
  refine lv_aload_n hx hb dX3_ringsCross_1 rfl (lv_at hl 0 rfl) ?_
  refine h_get (ci := 3) (v := .int mx) (C := RX3) (T := TX3) (N := 2) hx hb hts kl_X3 hown hK hw hem rfl 0 (by decide) (hts _ kf_X3_88) rfl rfl dX3_ringsCross_2 ?_
  refine lv_aload_n hx hb dX3_ringsCross_5 rfl (lv_at hl 0 rfl) ?_
  refine h_get (ci := 3) (v := .int my) (C := RX3) (T := TX3) (N := 2) hx hb hts kl_X3 hown hK hw hem rfl 1 (by decide) (hts _ kf_X3_91) rfl rfl dX3_ringsCross_6 ?_
  refine h_callV (n := 2) (ci := 7) (b := g1) (As := [.int mx, .int my]) (rest := []) ⟨hx, hb, hml, hown, hts⟩ hK hw (c_X7_beginsAt l D dT ah s.heap.size g1 rg1 bx1 (some nx1) no1 fx1 fy1 tx1 ty1 he1 mx my) ko_X7_beginsAt km_X3_94 ki_X7_beginsAt ks_X7_beginsAt kn_X7 (by decide +kernel) rfl he1 rfl hl.1 rfl (by simp [Value.category]) dX3_ringsCross_9 (by rw [hR]; exact ⟨rfl, rfl, Nat.le_of_ble_eq_true rfl, Nat.le_of_ble_eq_true rfl, by simp, by simp⟩) (fun r_1 ah_2 H_3 L_4 st_5 hp hw hst => ?_)
  obtain ⟨rfl, rfl⟩ := hp
  have hst : st_5 = [.int (bI (sgBegins fx1 fy1 mx my))] := hst
  subst hst
  refine lv_if_ne (tgt := 30) hx hb dX3_ringsCross_12 (by decide) (fun c_6 => ?_) (fun c_6 => ?_)
  · skip
    have c_6 : ¬ (sgBegins fx1 fy1 mx my = false) := (not_congr bI_0).mp c_6
    refine lv_iconst (v := 0) hx hb dX3_ringsCross_30 (by decide) ?_
    have hv : 0 = bI (mtCross mx my fx1 fy1 tx1 ty1 tx3 ty3 fx2 fy2 tx2 ty2 tx4 ty4) := by
      unfold mtCross
      simp only [bI_if, bI_t, bI_f]
      all_goals rw [if_neg c_6]
    rw [hQ]
    exact h_zret hx hb hr hlk hsz hw (by simp) (by simp) dX3_ringsCross_31 (bI_v hv) ⟨congrArg (fun z => some (Value.int z)) hv, rfl⟩
  · skip
    have c_6 : sgBegins fx1 fy1 mx my = false := bI_0.mp c_6
    refine lv_aload_n hx hb dX3_ringsCross_15 rfl (lv_at hl 2 rfl) ?_
    refine lv_aload_n hx hb dX3_ringsCross_16 rfl (lv_at hl 0 rfl) ?_
    refine h_get (ci := 3) (v := .int mx) (C := RX3) (T := TX3) (N := 2) hx hb hts kl_X3 hown hK hw hem rfl 0 (by decide) (hts _ kf_X3_88) rfl rfl dX3_ringsCross_17 ?_
    refine lv_aload_n hx hb dX3_ringsCross_20 rfl (lv_at hl 0 rfl) ?_
    refine h_get (ci := 3) (v := .int my) (C := RX3) (T := TX3) (N := 2) hx hb hts kl_X3 hown hK hw hem rfl 1 (by decide) (hts _ kf_X3_91) rfl rfl dX3_ringsCross_21 ?_
    refine h_callV (n := 2) (ci := 7) (b := g2) (As := [.int mx, .int my]) (rest := []) ⟨hx, hb, hml, hown, hts⟩ hK hw (c_X7_beginsAt l D dT ah H_3.size g2 rg2 bx2 (some nx2) no2 fx2 fy2 tx2 ty2 he2 mx my) ko_X7_beginsAt km_X3_94 ki_X7_beginsAt ks_X7_beginsAt kn_X7 (by decide +kernel) rfl he2 rfl hl.1 rfl (by simp [Value.category]) dX3_ringsCross_24 (by rw [hR]; exact ⟨rfl, rfl, Nat.le_of_ble_eq_true rfl, Nat.le_of_ble_eq_true rfl, by simp, by simp⟩) (fun r_7 ah_8 H_9 L_10 st_11 hp hw hst => ?_)
    obtain ⟨rfl, rfl⟩ := hp
    have hst : st_11 = [.int (bI (sgBegins fx2 fy2 mx my))] := hst
    subst hst
    refine lv_if_eq (tgt := 32) hx hb dX3_ringsCross_27 (by decide) (fun c_12 => ?_) (fun c_12 => ?_)
    · skip
      have c_12 : sgBegins fx2 fy2 mx my = false := bI_0.mp c_12
      refine lv_aload_n hx hb dX3_ringsCross_32 rfl (lv_at hl 2 rfl) ?_
      refine h_getN (ci := 7) (v := .int tx2) (C := RX7) (T := TX7) (N := 8) hx hb hts kl_X7 hown hK hw he2 rfl 4 (by decide) (va_Nw.use rfl (hK.2.1 _ (List.mem_of_getElem? (i := 26) rfl))) rfl rfl dX3_ringsCross_33 ?_
      refine lv_aload_n hx hb dX3_ringsCross_36 rfl (lv_at hl 0 rfl) ?_
      refine h_get (ci := 3) (v := .int mx) (C := RX3) (T := TX3) (N := 2) hx hb hts kl_X3 hown hK hw hem rfl 0 (by decide) (hts _ kf_X3_88) rfl rfl dX3_ringsCross_37 ?_
      have J_16 : ∀ (v_15 : Int32) (ls : Array Slot), lv_has ls 7 [(0, .ref mt), (1, .ref g1), (2, .ref g2)] → v_15 = (if tx2 = mx then (if ty2 = my then 1 else 0) else 0) → W p l e R s m args below meth c H_9 L_10 (0 + 0 + 0) (0 + 0 + 0) Q (F0 m 59 ls [.int v_15]) := by
        intro v_15 ls hl ev_15
        refine lv_istore_n (lv' := [(3, .int v_15), (0, .ref mt), (1, .ref g1), (2, .ref g2)]) hx hb dX3_ringsCross_59 rfl hl (by decide) rfl (fun ls hl => ?_)
        refine lv_iload_n hx hb dX3_ringsCross_60 rfl (lv_at hl 0 rfl) ?_
        refine lv_if_eq (tgt := 78) hx hb dX3_ringsCross_61 (by decide) (fun c_17 => ?_) (fun c_17 => ?_)
        · skip
          refine lv_aload_n hx hb dX3_ringsCross_78 rfl (lv_at hl 3 rfl) ?_
          refine lv_astore (lv' := [(4, .ref g2), (3, .int v_15), (0, .ref mt), (1, .ref g1), (2, .ref g2)]) hx hb dX3_ringsCross_79 hl (by decide) rfl (fun ls hl => ?_)
          refine lv_aload_n hx hb dX3_ringsCross_81 rfl (lv_at hl 3 rfl) ?_
          refine lv_aload_n hx hb dX3_ringsCross_82 rfl (lv_at hl 2 rfl) ?_
          refine h_get (ci := 3) (v := .int mx) (C := RX3) (T := TX3) (N := 2) hx hb hts kl_X3 hown hK hw hem rfl 0 (by decide) (hts _ kf_X3_88) rfl rfl dX3_ringsCross_83 ?_
          refine lv_aload_n hx hb dX3_ringsCross_86 rfl (lv_at hl 2 rfl) ?_
          refine h_get (ci := 3) (v := .int my) (C := RX3) (T := TX3) (N := 2) hx hb hts kl_X3 hown hK hw hem rfl 1 (by decide) (hts _ kf_X3_91) rfl rfl dX3_ringsCross_87 ?_
          refine lv_aload_n hx hb dX3_ringsCross_90 rfl (lv_at hl 4 rfl) ?_
          refine h_getN (ci := 7) (v := .int fx2) (C := RX7) (T := TX7) (N := 8) hx hb hts kl_X7 hown hK hw he2 rfl 2 (by decide) (va_Nw.use rfl (hK.2.1 _ (List.mem_of_getElem? (i := 20) rfl))) rfl rfl dX3_ringsCross_91 ?_
          refine lv_aload_n hx hb dX3_ringsCross_94 rfl (lv_at hl 4 rfl) ?_
          refine h_getN (ci := 7) (v := .int fy2) (C := RX7) (T := TX7) (N := 8) hx hb hts kl_X7 hown hK hw he2 rfl 3 (by decide) (va_Nw.use rfl (hK.2.1 _ (List.mem_of_getElem? (i := 23) rfl))) rfl rfl dX3_ringsCross_95 ?_
          refine h_callV (n := 4) (ci := 7) (b := g1) (As := [.int mx, .int my, .int fx2, .int fy2]) (rest := []) ⟨hx, hb, hml, hown, hts⟩ hK hw (c_X7_hasOnLeft l D dT ah H_9.size g1 rg1 bx1 nx1 no1 fx1 fy1 tx1 ty1 he1 rg3 bx3 nx3 no3 fx3 fy3 tx3 ty3 he3 mx my fx2 fy2) ko_X7_hasOnLeft km_X3_102 ki_X7_hasOnLeft ks_X7_hasOnLeft kn_X7 (by decide +kernel) rfl he1 rfl hl.1 rfl (by simp [Value.category]) dX3_ringsCross_98 (by rw [hR]; exact ⟨rfl, rfl, Nat.le_of_ble_eq_true rfl, Nat.le_of_ble_eq_true rfl, by simp, by simp⟩) (fun r_18 ah_19 H_20 L_21 st_22 hp hw hst => ?_)
          obtain ⟨rfl, rfl⟩ := hp
          have hst : st_22 = [.int (bI (sgLeft fx1 fy1 tx1 ty1 tx3 ty3 mx my fx2 fy2))] := hst
          subst hst
          refine lv_istore (lv' := [(5, .int (bI (sgLeft fx1 fy1 tx1 ty1 tx3 ty3 mx my fx2 fy2))), (4, .ref g2), (3, .int v_15), (0, .ref mt), (1, .ref g1), (2, .ref g2)]) hx hb dX3_ringsCross_101 hl (by decide) rfl (fun ls hl => ?_)
          refine lv_aload_n hx hb dX3_ringsCross_103 rfl (lv_at hl 4 rfl) ?_
          refine lv_aload_n hx hb dX3_ringsCross_104 rfl (lv_at hl 3 rfl) ?_
          refine h_get (ci := 3) (v := .int mx) (C := RX3) (T := TX3) (N := 2) hx hb hts kl_X3 hown hK hw hem rfl 0 (by decide) (hts _ kf_X3_88) rfl rfl dX3_ringsCross_105 ?_
          refine lv_aload_n hx hb dX3_ringsCross_108 rfl (lv_at hl 3 rfl) ?_
          refine h_get (ci := 3) (v := .int my) (C := RX3) (T := TX3) (N := 2) hx hb hts kl_X3 hown hK hw hem rfl 1 (by decide) (hts _ kf_X3_91) rfl rfl dX3_ringsCross_109 ?_
          refine lv_aload hx hb dX3_ringsCross_112 (lv_at hl 1 rfl) ?_
          refine h_getN (ci := 7) (v := .int tx2) (C := RX7) (T := TX7) (N := 8) hx hb hts kl_X7 hown hK hw he2 rfl 4 (by decide) (va_Nw.use rfl (hK.2.1 _ (List.mem_of_getElem? (i := 26) rfl))) rfl rfl dX3_ringsCross_114 ?_
          refine lv_aload hx hb dX3_ringsCross_117 (lv_at hl 1 rfl) ?_
          refine h_getN (ci := 7) (v := .int ty2) (C := RX7) (T := TX7) (N := 8) hx hb hts kl_X7 hown hK hw he2 rfl 5 (by decide) (va_Nw.use rfl (hK.2.1 _ (List.mem_of_getElem? (i := 28) rfl))) rfl rfl dX3_ringsCross_119 ?_
          refine h_callV (n := 4) (ci := 7) (b := g1) (As := [.int mx, .int my, .int tx2, .int ty2]) (rest := []) ⟨hx, hb, hml, hown, hts⟩ hK hw (c_X7_hasOnLeft l D dT ah H_20.size g1 rg1 bx1 nx1 no1 fx1 fy1 tx1 ty1 he1 rg3 bx3 nx3 no3 fx3 fy3 tx3 ty3 he3 mx my tx2 ty2) ko_X7_hasOnLeft km_X3_102 ki_X7_hasOnLeft ks_X7_hasOnLeft kn_X7 (by decide +kernel) rfl he1 rfl hl.1 rfl (by simp [Value.category]) dX3_ringsCross_122 (by rw [hR]; exact ⟨rfl, rfl, Nat.le_of_ble_eq_true rfl, Nat.le_of_ble_eq_true rfl, by simp, by simp⟩) (fun r_23 ah_24 H_25 L_26 st_27 hp hw hst => ?_)
          obtain ⟨rfl, rfl⟩ := hp
          have hst : st_27 = [.int (bI (sgLeft fx1 fy1 tx1 ty1 tx3 ty3 mx my tx2 ty2))] := hst
          subst hst
          refine lv_istore (lv' := [(6, .int (bI (sgLeft fx1 fy1 tx1 ty1 tx3 ty3 mx my tx2 ty2))), (5, .int (bI (sgLeft fx1 fy1 tx1 ty1 tx3 ty3 mx my fx2 fy2))), (4, .ref g2), (3, .int v_15), (0, .ref mt), (1, .ref g1), (2, .ref g2)]) hx hb dX3_ringsCross_125 hl (by decide) rfl (fun ls hl => ?_)
          refine lv_iload hx hb dX3_ringsCross_127 (lv_at hl 1 rfl) ?_
          refine lv_iload hx hb dX3_ringsCross_129 (lv_at hl 0 rfl) ?_
          have J_30 : ∀ (v_29 : Int32) (ls : Array Slot), lv_has ls 7 [(6, .int (bI (sgLeft fx1 fy1 tx1 ty1 tx3 ty3 mx my tx2 ty2))), (5, .int (bI (sgLeft fx1 fy1 tx1 ty1 tx3 ty3 mx my fx2 fy2))), (4, .ref g2), (3, .int v_15), (0, .ref mt), (1, .ref g1), (2, .ref g2)] → v_29 = (if bI (sgLeft fx1 fy1 tx1 ty1 tx3 ty3 mx my fx2 fy2) = bI (sgLeft fx1 fy1 tx1 ty1 tx3 ty3 mx my tx2 ty2) then 0 else 1) → W p l e R s m args below meth c H_25 L_26 (0 + 0 + 0 + 0 + 0) (0 + 0 + 0 + 0 + 0) Q (F0 m 139 ls [.int v_29]) := by
            intro v_29 ls hl ev_29
            have hv : v_29 = bI (mtCross mx my fx1 fy1 tx1 ty1 tx3 ty3 fx2 fy2 tx2 ty2 tx4 ty4) := by
              subst ev_29
              subst ev_15
              unfold mtCross
              simp only [bI_if, bI_t, bI_f]
              all_goals rw [if_pos c_6, if_pos c_12, if_pos c_17]
            rw [hQ]
            exact h_zret hx hb hr hlk hsz hw (by simp) (by simp) dX3_ringsCross_139 (bI_v hv) ⟨congrArg (fun z => some (Value.int z)) hv, rfl⟩
          refine lv_icmp_eq (tgt := 138) hx hb dX3_ringsCross_131 (by decide) (fun c_28 => ?_) (fun c_28 => ?_)
          · skip
            refine lv_iconst (v := 0) hx hb dX3_ringsCross_138 (by decide) ?_
            exact J_30 0 ls (lv_sub hl [0, 1, 2, 3, 4, 5, 6] rfl) (by rw [if_pos c_28])
          · skip
            refine lv_iconst (v := 1) hx hb dX3_ringsCross_134 (by decide) ?_
            refine lv_goto (tgt := 139) hx hb dX3_ringsCross_135 (by decide) ?_
            exact J_30 1 ls (lv_sub hl [0, 1, 2, 3, 4, 5, 6] rfl) (by rw [if_neg c_28])
        · skip
          refine lv_aload_n hx hb dX3_ringsCross_64 rfl (lv_at hl 3 rfl) ?_
          refine h_getN (ci := 7) (v := .ref nx2) (C := RX7) (T := TX7) (N := 8) hx hb hts kl_X7 hown hK hw he2 rfl 7 (by decide) (va_Nw.use rfl (hK.2.1 _ (List.mem_of_getElem? (i := 32) rfl))) rfl rfl dX3_ringsCross_65 ?_
          refine lv_ifnull hx hb dX3_ringsCross_68 ?_
          refine lv_aload_n hx hb dX3_ringsCross_71 rfl (lv_at hl 3 rfl) ?_
          refine h_getN (ci := 7) (v := .ref nx2) (C := RX7) (T := TX7) (N := 8) hx hb hts kl_X7 hown hK hw he2 rfl 7 (by decide) (va_Nw.use rfl (hK.2.1 _ (List.mem_of_getElem? (i := 32) rfl))) rfl rfl dX3_ringsCross_72 ?_
          refine lv_goto (tgt := 79) hx hb dX3_ringsCross_75 (by decide) ?_
          refine lv_astore (lv' := [(4, .ref nx2), (3, .int v_15), (0, .ref mt), (1, .ref g1), (2, .ref g2)]) hx hb dX3_ringsCross_79 hl (by decide) rfl (fun ls hl => ?_)
          refine lv_aload_n hx hb dX3_ringsCross_81 rfl (lv_at hl 3 rfl) ?_
          refine lv_aload_n hx hb dX3_ringsCross_82 rfl (lv_at hl 2 rfl) ?_
          refine h_get (ci := 3) (v := .int mx) (C := RX3) (T := TX3) (N := 2) hx hb hts kl_X3 hown hK hw hem rfl 0 (by decide) (hts _ kf_X3_88) rfl rfl dX3_ringsCross_83 ?_
          refine lv_aload_n hx hb dX3_ringsCross_86 rfl (lv_at hl 2 rfl) ?_
          refine h_get (ci := 3) (v := .int my) (C := RX3) (T := TX3) (N := 2) hx hb hts kl_X3 hown hK hw hem rfl 1 (by decide) (hts _ kf_X3_91) rfl rfl dX3_ringsCross_87 ?_
          refine lv_aload_n hx hb dX3_ringsCross_90 rfl (lv_at hl 4 rfl) ?_
          refine h_getN (ci := 7) (v := .int fx2) (C := RX7) (T := TX7) (N := 8) hx hb hts kl_X7 hown hK hw he2 rfl 2 (by decide) (va_Nw.use rfl (hK.2.1 _ (List.mem_of_getElem? (i := 20) rfl))) rfl rfl dX3_ringsCross_91 ?_
          refine lv_aload_n hx hb dX3_ringsCross_94 rfl (lv_at hl 4 rfl) ?_
          refine h_getN (ci := 7) (v := .int fy2) (C := RX7) (T := TX7) (N := 8) hx hb hts kl_X7 hown hK hw he2 rfl 3 (by decide) (va_Nw.use rfl (hK.2.1 _ (List.mem_of_getElem? (i := 23) rfl))) rfl rfl dX3_ringsCross_95 ?_
          refine h_callV (n := 4) (ci := 7) (b := g1) (As := [.int mx, .int my, .int fx2, .int fy2]) (rest := []) ⟨hx, hb, hml, hown, hts⟩ hK hw (c_X7_hasOnLeft l D dT ah H_9.size g1 rg1 bx1 nx1 no1 fx1 fy1 tx1 ty1 he1 rg3 bx3 nx3 no3 fx3 fy3 tx3 ty3 he3 mx my fx2 fy2) ko_X7_hasOnLeft km_X3_102 ki_X7_hasOnLeft ks_X7_hasOnLeft kn_X7 (by decide +kernel) rfl he1 rfl hl.1 rfl (by simp [Value.category]) dX3_ringsCross_98 (by rw [hR]; exact ⟨rfl, rfl, Nat.le_of_ble_eq_true rfl, Nat.le_of_ble_eq_true rfl, by simp, by simp⟩) (fun r_31 ah_32 H_33 L_34 st_35 hp hw hst => ?_)
          obtain ⟨rfl, rfl⟩ := hp
          have hst : st_35 = [.int (bI (sgLeft fx1 fy1 tx1 ty1 tx3 ty3 mx my fx2 fy2))] := hst
          subst hst
          refine lv_istore (lv' := [(5, .int (bI (sgLeft fx1 fy1 tx1 ty1 tx3 ty3 mx my fx2 fy2))), (4, .ref nx2), (3, .int v_15), (0, .ref mt), (1, .ref g1), (2, .ref g2)]) hx hb dX3_ringsCross_101 hl (by decide) rfl (fun ls hl => ?_)
          refine lv_aload_n hx hb dX3_ringsCross_103 rfl (lv_at hl 4 rfl) ?_
          refine lv_aload_n hx hb dX3_ringsCross_104 rfl (lv_at hl 3 rfl) ?_
          refine h_get (ci := 3) (v := .int mx) (C := RX3) (T := TX3) (N := 2) hx hb hts kl_X3 hown hK hw hem rfl 0 (by decide) (hts _ kf_X3_88) rfl rfl dX3_ringsCross_105 ?_
          refine lv_aload_n hx hb dX3_ringsCross_108 rfl (lv_at hl 3 rfl) ?_
          refine h_get (ci := 3) (v := .int my) (C := RX3) (T := TX3) (N := 2) hx hb hts kl_X3 hown hK hw hem rfl 1 (by decide) (hts _ kf_X3_91) rfl rfl dX3_ringsCross_109 ?_
          refine lv_aload hx hb dX3_ringsCross_112 (lv_at hl 1 rfl) ?_
          refine h_getN (ci := 7) (v := .int tx4) (C := RX7) (T := TX7) (N := 8) hx hb hts kl_X7 hown hK hw he4 rfl 4 (by decide) (va_Nw.use rfl (hK.2.1 _ (List.mem_of_getElem? (i := 26) rfl))) rfl rfl dX3_ringsCross_114 ?_
          refine lv_aload hx hb dX3_ringsCross_117 (lv_at hl 1 rfl) ?_
          refine h_getN (ci := 7) (v := .int ty4) (C := RX7) (T := TX7) (N := 8) hx hb hts kl_X7 hown hK hw he4 rfl 5 (by decide) (va_Nw.use rfl (hK.2.1 _ (List.mem_of_getElem? (i := 28) rfl))) rfl rfl dX3_ringsCross_119 ?_
          refine h_callV (n := 4) (ci := 7) (b := g1) (As := [.int mx, .int my, .int tx4, .int ty4]) (rest := []) ⟨hx, hb, hml, hown, hts⟩ hK hw (c_X7_hasOnLeft l D dT ah H_33.size g1 rg1 bx1 nx1 no1 fx1 fy1 tx1 ty1 he1 rg3 bx3 nx3 no3 fx3 fy3 tx3 ty3 he3 mx my tx4 ty4) ko_X7_hasOnLeft km_X3_102 ki_X7_hasOnLeft ks_X7_hasOnLeft kn_X7 (by decide +kernel) rfl he1 rfl hl.1 rfl (by simp [Value.category]) dX3_ringsCross_122 (by rw [hR]; exact ⟨rfl, rfl, Nat.le_of_ble_eq_true rfl, Nat.le_of_ble_eq_true rfl, by simp, by simp⟩) (fun r_36 ah_37 H_38 L_39 st_40 hp hw hst => ?_)
          obtain ⟨rfl, rfl⟩ := hp
          have hst : st_40 = [.int (bI (sgLeft fx1 fy1 tx1 ty1 tx3 ty3 mx my tx4 ty4))] := hst
          subst hst
          refine lv_istore (lv' := [(6, .int (bI (sgLeft fx1 fy1 tx1 ty1 tx3 ty3 mx my tx4 ty4))), (5, .int (bI (sgLeft fx1 fy1 tx1 ty1 tx3 ty3 mx my fx2 fy2))), (4, .ref nx2), (3, .int v_15), (0, .ref mt), (1, .ref g1), (2, .ref g2)]) hx hb dX3_ringsCross_125 hl (by decide) rfl (fun ls hl => ?_)
          refine lv_iload hx hb dX3_ringsCross_127 (lv_at hl 1 rfl) ?_
          refine lv_iload hx hb dX3_ringsCross_129 (lv_at hl 0 rfl) ?_
          have J_43 : ∀ (v_42 : Int32) (ls : Array Slot), lv_has ls 7 [(6, .int (bI (sgLeft fx1 fy1 tx1 ty1 tx3 ty3 mx my tx4 ty4))), (5, .int (bI (sgLeft fx1 fy1 tx1 ty1 tx3 ty3 mx my fx2 fy2))), (4, .ref nx2), (3, .int v_15), (0, .ref mt), (1, .ref g1), (2, .ref g2)] → v_42 = (if bI (sgLeft fx1 fy1 tx1 ty1 tx3 ty3 mx my fx2 fy2) = bI (sgLeft fx1 fy1 tx1 ty1 tx3 ty3 mx my tx4 ty4) then 0 else 1) → W p l e R s m args below meth c H_38 L_39 (0 + 0 + 0 + 0 + 0) (0 + 0 + 0 + 0 + 0) Q (F0 m 139 ls [.int v_42]) := by
            intro v_42 ls hl ev_42
            have hv : v_42 = bI (mtCross mx my fx1 fy1 tx1 ty1 tx3 ty3 fx2 fy2 tx2 ty2 tx4 ty4) := by
              subst ev_42
              subst ev_15
              unfold mtCross
              simp only [bI_if, bI_t, bI_f]
              all_goals rw [if_pos c_6, if_pos c_12, if_neg c_17]
            rw [hQ]
            exact h_zret hx hb hr hlk hsz hw (by simp) (by simp) dX3_ringsCross_139 (bI_v hv) ⟨congrArg (fun z => some (Value.int z)) hv, rfl⟩
          refine lv_icmp_eq (tgt := 138) hx hb dX3_ringsCross_131 (by decide) (fun c_41 => ?_) (fun c_41 => ?_)
          · skip
            refine lv_iconst (v := 0) hx hb dX3_ringsCross_138 (by decide) ?_
            exact J_43 0 ls (lv_sub hl [0, 1, 2, 3, 4, 5, 6] rfl) (by rw [if_pos c_41])
          · skip
            refine lv_iconst (v := 1) hx hb dX3_ringsCross_134 (by decide) ?_
            refine lv_goto (tgt := 139) hx hb dX3_ringsCross_135 (by decide) ?_
            exact J_43 1 ls (lv_sub hl [0, 1, 2, 3, 4, 5, 6] rfl) (by rw [if_neg c_41])
      refine lv_icmp_ne (tgt := 58) hx hb dX3_ringsCross_40 (by decide) (fun c_13 => ?_) (fun c_13 => ?_)
      · skip
        refine lv_iconst (v := 0) hx hb dX3_ringsCross_58 (by decide) ?_
        exact J_16 0 ls (lv_sub hl [0, 1, 2] rfl) (by rw [if_neg c_13])
      · skip
        refine lv_aload_n hx hb dX3_ringsCross_43 rfl (lv_at hl 2 rfl) ?_
        refine h_getN (ci := 7) (v := .int ty2) (C := RX7) (T := TX7) (N := 8) hx hb hts kl_X7 hown hK hw he2 rfl 5 (by decide) (va_Nw.use rfl (hK.2.1 _ (List.mem_of_getElem? (i := 28) rfl))) rfl rfl dX3_ringsCross_44 ?_
        refine lv_aload_n hx hb dX3_ringsCross_47 rfl (lv_at hl 0 rfl) ?_
        refine h_get (ci := 3) (v := .int my) (C := RX3) (T := TX3) (N := 2) hx hb hts kl_X3 hown hK hw hem rfl 1 (by decide) (hts _ kf_X3_91) rfl rfl dX3_ringsCross_48 ?_
        refine lv_icmp_ne (tgt := 58) hx hb dX3_ringsCross_51 (by decide) (fun c_14 => ?_) (fun c_14 => ?_)
        · skip
          refine lv_iconst (v := 0) hx hb dX3_ringsCross_58 (by decide) ?_
          exact J_16 0 ls (lv_sub hl [0, 1, 2] rfl) (by rw [if_pos c_13, if_neg c_14])
        · skip
          refine lv_iconst (v := 1) hx hb dX3_ringsCross_54 (by decide) ?_
          refine lv_goto (tgt := 59) hx hb dX3_ringsCross_55 (by decide) ?_
          exact J_16 1 ls (lv_sub hl [0, 1, 2] rfl) (by rw [if_pos c_13, if_pos c_14])
    · skip
      have c_12 : ¬ (sgBegins fx2 fy2 mx my = false) := (not_congr bI_0).mp c_12
      refine lv_iconst (v := 0) hx hb dX3_ringsCross_30 (by decide) ?_
      have hv : 0 = bI (mtCross mx my fx1 fy1 tx1 ty1 tx3 ty3 fx2 fy2 tx2 ty2 tx4 ty4) := by
        unfold mtCross
        simp only [bI_if, bI_t, bI_f]
        all_goals rw [if_pos c_6, if_neg c_12]
      rw [hQ]
      exact h_zret hx hb hr hlk hsz hw (by simp) (by simp) dX3_ringsCross_31 (bI_v hv) ⟨congrArg (fun z => some (Value.int z)) hv, rfl⟩

def mtFault (mx my : Int32) (g1 nx1 rg1 : Nat) (fx1 fy1 tx1 ty1 bx0p by0p bx1p by1p tx3 ty3 : Int32) (g2 nx2 rg2 : Nat) (fx2 fy2 tx2 ty2 bx0q by0q bx1q by1q tx4 ty4 : Int32) : Int32 × Int32 × Int32 := (if (mtMeet mx my fx1 fy1 tx1 ty1 bx0p by0p bx1p by1p fx2 fy2 tx2 ty2 bx0q by0q bx1q by1q).1 = 0 then (0, (mtMeet mx my fx1 fy1 tx1 ty1 bx0p by0p bx1p by1p fx2 fy2 tx2 ty2 bx0q by0q bx1q by1q).2.1, (mtMeet mx my fx1 fy1 tx1 ty1 bx0p by0p bx1p by1p fx2 fy2 tx2 ty2 bx0q by0q bx1q by1q).2.2) else (if (mtMeet mx my fx1 fy1 tx1 ty1 bx0p by0p bx1p by1p fx2 fy2 tx2 ty2 bx0q by0q bx1q by1q).1 = 3 then (3, (mtMeet mx my fx1 fy1 tx1 ty1 bx0p by0p bx1p by1p fx2 fy2 tx2 ty2 bx0q by0q bx1q by1q).2.1, (mtMeet mx my fx1 fy1 tx1 ty1 bx0p by0p bx1p by1p fx2 fy2 tx2 ty2 bx0q by0q bx1q by1q).2.2) else (if (mtMeet mx my fx1 fy1 tx1 ty1 bx0p by0p bx1p by1p fx2 fy2 tx2 ty2 bx0q by0q bx1q by1q).1 = 1 then (4, (mtMeet mx my fx1 fy1 tx1 ty1 bx0p by0p bx1p by1p fx2 fy2 tx2 ty2 bx0q by0q bx1q by1q).2.1, (mtMeet mx my fx1 fy1 tx1 ty1 bx0p by0p bx1p by1p fx2 fy2 tx2 ty2 bx0q by0q bx1q by1q).2.2) else (if some rg1 = some rg2 then (((if sgNeigh g1 nx1 g2 nx2 = false then 5 else 0) : Int32), (mtMeet mx my fx1 fy1 tx1 ty1 bx0p by0p bx1p by1p fx2 fy2 tx2 ty2 bx0q by0q bx1q by1q).2.1, (mtMeet mx my fx1 fy1 tx1 ty1 bx0p by0p bx1p by1p fx2 fy2 tx2 ty2 bx0q by0q bx1q by1q).2.2) else (((if mtCross ((mtMeet mx my fx1 fy1 tx1 ty1 bx0p by0p bx1p by1p fx2 fy2 tx2 ty2 bx0q by0q bx1q by1q).2.1) ((mtMeet mx my fx1 fy1 tx1 ty1 bx0p by0p bx1p by1p fx2 fy2 tx2 ty2 bx0q by0q bx1q by1q).2.2) fx1 fy1 tx1 ty1 tx3 ty3 fx2 fy2 tx2 ty2 tx4 ty4 = false then 0 else 4) : Int32), (mtMeet mx my fx1 fy1 tx1 ty1 bx0p by0p bx1p by1p fx2 fy2 tx2 ty2 bx0q by0q bx1q by1q).2.1, (mtMeet mx my fx1 fy1 tx1 ty1 bx0p by0p bx1p by1p fx2 fy2 tx2 ty2 bx0q by0q bx1q by1q).2.2)))))
set_option maxHeartbeats 4000000 in
set_option maxRecDepth 100000 in
theorem c_X3_fault (l : Launch) (D : va_G) (dT : Nat → ClassId) (ah : hA) (sz : Nat) (mt : Nat) (mx my : Int32) (hem : ah mt = some (.inr (3, [.int mx, .int my]))) (g1 rg1 bx1 nx1 : Nat) (no1 fx1 fy1 tx1 ty1 : Int32) (he1 : ah g1 = some (.inr (7, [.ref rg1, .int no1, .int fx1, .int fy1, .int tx1, .int ty1, .ref bx1, .ref nx1]))) (bx0p by0p bx1p by1p : Int32) (hebp : ah bx1 = some (.inr (0, [.int bx0p, .int by0p, .int bx1p, .int by1p]))) (rg3 bx3 nx3 : Nat) (no3 fx3 fy3 tx3 ty3 : Int32) (he3 : ah nx1 = some (.inr (7, [.ref rg3, .int no3, .int fx3, .int fy3, .int tx3, .int ty3, .ref bx3, .ref nx3]))) (g2 rg2 bx2 nx2 : Nat) (no2 fx2 fy2 tx2 ty2 : Int32) (he2 : ah g2 = some (.inr (7, [.ref rg2, .int no2, .int fx2, .int fy2, .int tx2, .int ty2, .ref bx2, .ref nx2]))) (bx0q by0q bx1q by1q : Int32) (hebq : ah bx2 = some (.inr (0, [.int bx0q, .int by0q, .int bx1q, .int by1q]))) (rg4 bx4 nx4 : Nat) (no4 fx4 fy4 tx4 ty4 : Int32) (he4 : ah nx2 = some (.inr (7, [.ref rg4, .int no4, .int fx4, .int fy4, .int tx4, .int ty4, .ref bx4, .ref nx4]))) : hMet l yX3_fault cX3_fault 4 (some .int) ({ frames := 3, cells := 0, slots := 0, locals := 79 }) D dT [.ref mt, .ref g1, .ref g2] ah sz (fun r ah2 => r = some (.int (mtFault mx my g1 nx1 rg1 fx1 fy1 tx1 ty1 bx0p by0p bx1p by1p tx3 ty3 g2 nx2 rg2 fx2 fy2 tx2 ty2 bx0q by0q bx1q by1q tx4 ty4).1) ∧ ah2 = hup ah mt (.inr (3, [.int (mtFault mx my g1 nx1 rg1 fx1 fy1 tx1 ty1 bx0p by0p bx1p by1p tx3 ty3 g2 nx2 rg2 fx2 fy2 tx2 ty2 bx0q by0q bx1q by1q tx4 ty4).2.1, .int (mtFault mx my g1 nx1 rg1 fx1 fy1 tx1 ty1 bx0p by0p bx1p by1p tx3 ty3 g2 nx2 rg2 fx2 fy2 tx2 ty2 bx0q by0q bx1q by1q tx4 ty4).2.2]))) 0 0 := by
  refine h_met (by decide) (Nat.le_of_ble_eq_true rfl) ?_
  intro p e s m below meth c ls R Q args hav hR hQ hB hl hsz hw
  obtain ⟨hx, hb, hml, hr, hts, hown, hlk, hin, hK⟩ := hB
  have hown : s.vm.findClass RX3 = some m.cls := hown
  have hl : lv_has ls 4 [(0, .ref mt), (1, .ref g1), (2, .ref g2)] := hl
  refine lv_aload_n hx hb dX3_fault_0 rfl (lv_at hl 0 rfl) ?_
  refine lv_aload_n hx hb dX3_fault_1 rfl (lv_at hl 1 rfl) ?_
  refine lv_aload_n hx hb dX3_fault_2 rfl (lv_at hl 2 rfl) ?_
  refine h_callV (n := 2) (ci := 3) (b := mt) (As := [.ref g1, .ref g2]) (rest := []) ⟨hx, hb, hml, hown, hts⟩ hK hw (c_X3_meet l D dT ah s.heap.size mt mx my hem g1 rg1 bx1 nx1 no1 fx1 fy1 tx1 ty1 he1 bx0p by0p bx1p by1p hebp g2 rg2 bx2 nx2 no2 fx2 fy2 tx2 ty2 he2 bx0q by0q bx1q by1q hebq) ko_X3_meet km_X3_9 ki_X3_meet ks_X3_meet kn_X3 (by decide +kernel) rfl hem rfl hl.1 rfl (by simp [Value.category]) dX3_fault_3 (by rw [hR]; exact ⟨rfl, rfl, Nat.le_of_ble_eq_true rfl, Nat.le_of_ble_eq_true rfl, by simp, by simp⟩) (fun r_1 ah_2 H_3 L_4 st_5 hp hw hst => ?_)
  obtain ⟨rfl, eah_2⟩ := hp
  have hc_6 : ah_2 mt = some (.inr (3, [.int ((mtMeet mx my fx1 fy1 tx1 ty1 bx0p by0p bx1p by1p fx2 fy2 tx2 ty2 bx0q by0q bx1q by1q).2.1), .int ((mtMeet mx my fx1 fy1 tx1 ty1 bx0p by0p bx1p by1p fx2 fy2 tx2 ty2 bx0q by0q bx1q by1q).2.2)])) := by rw [eah_2]; exact hup_s
  have hc_7 := (show ah_2 g1 = _ from (by rw [eah_2]; exact hup_n (h_ne he1 hem (by simp)))).trans he1
  have hc_8 := (show ah_2 bx1 = _ from (by rw [eah_2]; exact hup_n (h_ne hebp hem (by simp)))).trans hebp
  have hc_9 := (show ah_2 g2 = _ from (by rw [eah_2]; exact hup_n (h_ne he2 hem (by simp)))).trans he2
  have hc_10 := (show ah_2 bx2 = _ from (by rw [eah_2]; exact hup_n (h_ne hebq hem (by simp)))).trans hebq
  have hc_11 := (show ah_2 nx1 = _ from (by rw [eah_2]; exact hup_n (h_ne he3 hem (by simp)))).trans he3
  have hc_12 := (show ah_2 nx2 = _ from (by rw [eah_2]; exact hup_n (h_ne he4 hem (by simp)))).trans he4
  have hst : st_5 = [.int ((mtMeet mx my fx1 fy1 tx1 ty1 bx0p by0p bx1p by1p fx2 fy2 tx2 ty2 bx0q by0q bx1q by1q).1)] := hst
  subst hst
  refine lv_istore_n (lv' := [(3, .int ((mtMeet mx my fx1 fy1 tx1 ty1 bx0p by0p bx1p by1p fx2 fy2 tx2 ty2 bx0q by0q bx1q by1q).1)), (0, .ref mt), (1, .ref g1), (2, .ref g2)]) hx hb dX3_fault_6 rfl hl (by decide) rfl (fun ls hl => ?_)
  refine lv_iload_n hx hb dX3_fault_7 rfl (lv_at hl 0 rfl) ?_
  refine lv_if_ne (tgt := 13) hx hb dX3_fault_8 (by decide) (fun c_13 => ?_) (fun c_13 => ?_)
  · skip
    refine lv_iload_n hx hb dX3_fault_13 rfl (lv_at hl 0 rfl) ?_
    refine lv_iconst (v := 3) hx hb dX3_fault_14 (by decide) ?_
    refine lv_icmp_ne (tgt := 20) hx hb dX3_fault_15 (by decide) (fun c_14 => ?_) (fun c_14 => ?_)
    · skip
      refine lv_iload_n hx hb dX3_fault_20 rfl (lv_at hl 0 rfl) ?_
      refine lv_iconst (v := 1) hx hb dX3_fault_21 (by decide) ?_
      refine lv_icmp_ne (tgt := 27) hx hb dX3_fault_22 (by decide) (fun c_15 => ?_) (fun c_15 => ?_)
      · skip
        refine lv_aload_n hx hb dX3_fault_27 rfl (lv_at hl 2 rfl) ?_
        refine h_getN (ci := 7) (v := .ref rg1) (C := RX7) (T := TX7) (N := 8) hx hb hts kl_X7 hown hK hw hc_7 rfl 0 (by decide) (va_Nw.use rfl (hK.2.1 _ (List.mem_of_getElem? (i := 16) rfl))) rfl rfl dX3_fault_28 ?_
        refine lv_aload_n hx hb dX3_fault_31 rfl (lv_at hl 3 rfl) ?_
        refine h_getN (ci := 7) (v := .ref rg2) (C := RX7) (T := TX7) (N := 8) hx hb hts kl_X7 hown hK hw hc_9 rfl 0 (by decide) (va_Nw.use rfl (hK.2.1 _ (List.mem_of_getElem? (i := 16) rfl))) rfl rfl dX3_fault_32 ?_
        refine lv_acmp_ne (rx := some rg1) (ry := some rg2) (tgt := 52) hx hb dX3_fault_35 (by decide) (fun c_16 => ?_) (fun c_16 => ?_)
        · skip
          refine lv_aload_n hx hb dX3_fault_52 rfl (lv_at hl 1 rfl) ?_
          refine lv_aload_n hx hb dX3_fault_53 rfl (lv_at hl 2 rfl) ?_
          refine lv_aload_n hx hb dX3_fault_54 rfl (lv_at hl 3 rfl) ?_
          refine h_callV (n := 2) (ci := 3) (b := mt) (As := [.ref g1, .ref g2]) (rest := []) ⟨hx, hb, hml, hown, hts⟩ hK hw (c_X3_ringsCross l D dT ah_2 H_3.size mt ((mtMeet mx my fx1 fy1 tx1 ty1 bx0p by0p bx1p by1p fx2 fy2 tx2 ty2 bx0q by0q bx1q by1q).2.1) ((mtMeet mx my fx1 fy1 tx1 ty1 bx0p by0p bx1p by1p fx2 fy2 tx2 ty2 bx0q by0q bx1q by1q).2.2) hc_6 g1 rg1 bx1 nx1 no1 fx1 fy1 tx1 ty1 hc_7 rg3 bx3 nx3 no3 fx3 fy3 tx3 ty3 hc_11 g2 rg2 bx2 nx2 no2 fx2 fy2 tx2 ty2 hc_9 rg4 bx4 nx4 no4 fx4 fy4 tx4 ty4 hc_12) ko_X3_ringsCross km_X3_25 ki_X3_ringsCross ks_X3_ringsCross kn_X3 (by decide +kernel) rfl hc_6 rfl hl.1 rfl (by simp [Value.category]) dX3_fault_55 (by rw [hR]; exact ⟨rfl, rfl, Nat.le_of_ble_eq_true rfl, Nat.le_of_ble_eq_true rfl, by simp, by simp⟩) (fun r_17 ah_18 H_19 L_20 st_21 hp hw hst => ?_)
          obtain ⟨rfl, rfl⟩ := hp
          have hst : st_21 = [.int (bI (mtCross ((mtMeet mx my fx1 fy1 tx1 ty1 bx0p by0p bx1p by1p fx2 fy2 tx2 ty2 bx0q by0q bx1q by1q).2.1) ((mtMeet mx my fx1 fy1 tx1 ty1 bx0p by0p bx1p by1p fx2 fy2 tx2 ty2 bx0q by0q bx1q by1q).2.2) fx1 fy1 tx1 ty1 tx3 ty3 fx2 fy2 tx2 ty2 tx4 ty4))] := hst
          subst hst
          have J_24 : ∀ (v_23 : Int32) (ls : Array Slot), lv_has ls 4 [(3, .int ((mtMeet mx my fx1 fy1 tx1 ty1 bx0p by0p bx1p by1p fx2 fy2 tx2 ty2 bx0q by0q bx1q by1q).1)), (0, .ref mt), (1, .ref g1), (2, .ref g2)] → v_23 = (if mtCross ((mtMeet mx my fx1 fy1 tx1 ty1 bx0p by0p bx1p by1p fx2 fy2 tx2 ty2 bx0q by0q bx1q by1q).2.1) ((mtMeet mx my fx1 fy1 tx1 ty1 bx0p by0p bx1p by1p fx2 fy2 tx2 ty2 bx0q by0q bx1q by1q).2.2) fx1 fy1 tx1 ty1 tx3 ty3 fx2 fy2 tx2 ty2 tx4 ty4 = false then 0 else 4) → W p l e R s m args below meth c H_19 L_20 (0 + 0 + 0) (0 + 0 + 0) Q (F0 m 66 ls [.int v_23]) := by
            intro v_23 ls hl ev_23
            have hv : (v_23, (mtMeet mx my fx1 fy1 tx1 ty1 bx0p by0p bx1p by1p fx2 fy2 tx2 ty2 bx0q by0q bx1q by1q).2.1, (mtMeet mx my fx1 fy1 tx1 ty1 bx0p by0p bx1p by1p fx2 fy2 tx2 ty2 bx0q by0q bx1q by1q).2.2) = mtFault mx my g1 nx1 rg1 fx1 fy1 tx1 ty1 bx0p by0p bx1p by1p tx3 ty3 g2 nx2 rg2 fx2 fy2 tx2 ty2 bx0q by0q bx1q by1q tx4 ty4 := by
              subst ev_23
              unfold mtFault
              all_goals rw [if_neg c_13, if_neg c_14, if_neg c_15, if_neg c_16]
            have hh : ah_2 = hup ah mt (.inr (3, [.int ((mtMeet mx my fx1 fy1 tx1 ty1 bx0p by0p bx1p by1p fx2 fy2 tx2 ty2 bx0q by0q bx1q by1q).2.1), .int ((mtMeet mx my fx1 fy1 tx1 ty1 bx0p by0p bx1p by1p fx2 fy2 tx2 ty2 bx0q by0q bx1q by1q).2.2)])) := by first | exact (hup_id hem).symm | (subst_vars; simp only [hup_hup])
            rw [hQ]
            exact h_iret hx hb hr hlk hsz hw (by simp) (by simp) dX3_fault_66 ⟨congrArg (a₁ := (v_23, (mtMeet mx my fx1 fy1 tx1 ty1 bx0p by0p bx1p by1p fx2 fy2 tx2 ty2 bx0q by0q bx1q by1q).2.1, (mtMeet mx my fx1 fy1 tx1 ty1 bx0p by0p bx1p by1p fx2 fy2 tx2 ty2 bx0q by0q bx1q by1q).2.2)) (a₂ := mtFault mx my g1 nx1 rg1 fx1 fy1 tx1 ty1 bx0p by0p bx1p by1p tx3 ty3 g2 nx2 rg2 fx2 fy2 tx2 ty2 bx0q by0q bx1q by1q tx4 ty4) (fun z : Int32 × Int32 × Int32 => some (Value.int z.1)) hv, hh.trans (congrArg (a₁ := (v_23, (mtMeet mx my fx1 fy1 tx1 ty1 bx0p by0p bx1p by1p fx2 fy2 tx2 ty2 bx0q by0q bx1q by1q).2.1, (mtMeet mx my fx1 fy1 tx1 ty1 bx0p by0p bx1p by1p fx2 fy2 tx2 ty2 bx0q by0q bx1q by1q).2.2)) (a₂ := mtFault mx my g1 nx1 rg1 fx1 fy1 tx1 ty1 bx0p by0p bx1p by1p tx3 ty3 g2 nx2 rg2 fx2 fy2 tx2 ty2 bx0q by0q bx1q by1q tx4 ty4) (fun z : Int32 × Int32 × Int32 => hup ah mt (.inr (3, [.int z.2.1, .int z.2.2]))) hv)⟩
          refine lv_if_eq (tgt := 65) hx hb dX3_fault_58 (by decide) (fun c_22 => ?_) (fun c_22 => ?_)
          · skip
            have c_22 : mtCross ((mtMeet mx my fx1 fy1 tx1 ty1 bx0p by0p bx1p by1p fx2 fy2 tx2 ty2 bx0q by0q bx1q by1q).2.1) ((mtMeet mx my fx1 fy1 tx1 ty1 bx0p by0p bx1p by1p fx2 fy2 tx2 ty2 bx0q by0q bx1q by1q).2.2) fx1 fy1 tx1 ty1 tx3 ty3 fx2 fy2 tx2 ty2 tx4 ty4 = false := bI_0.mp c_22
            refine lv_iconst (v := 0) hx hb dX3_fault_65 (by decide) ?_
            exact J_24 0 ls (lv_sub hl [0, 1, 2, 3] rfl) (by rw [if_pos c_22])
          · skip
            have c_22 : ¬ (mtCross ((mtMeet mx my fx1 fy1 tx1 ty1 bx0p by0p bx1p by1p fx2 fy2 tx2 ty2 bx0q by0q bx1q by1q).2.1) ((mtMeet mx my fx1 fy1 tx1 ty1 bx0p by0p bx1p by1p fx2 fy2 tx2 ty2 bx0q by0q bx1q by1q).2.2) fx1 fy1 tx1 ty1 tx3 ty3 fx2 fy2 tx2 ty2 tx4 ty4 = false) := (not_congr bI_0).mp c_22
            refine lv_iconst (v := 4) hx hb dX3_fault_61 (by decide) ?_
            refine lv_goto (tgt := 66) hx hb dX3_fault_62 (by decide) ?_
            exact J_24 4 ls (lv_sub hl [0, 1, 2, 3] rfl) (by rw [if_neg c_22])
        · skip
          refine lv_aload_n hx hb dX3_fault_38 rfl (lv_at hl 2 rfl) ?_
          refine lv_aload_n hx hb dX3_fault_39 rfl (lv_at hl 3 rfl) ?_
          refine h_callV (n := 1) (ci := 7) (b := g1) (As := [.ref g2]) (rest := []) ⟨hx, hb, hml, hown, hts⟩ hK hw (c_X7_isNeighbourOf l D dT ah_2 H_3.size g1 rg1 bx1 nx1 no1 fx1 fy1 tx1 ty1 hc_7 g2 rg2 bx2 nx2 no2 fx2 fy2 tx2 ty2 hc_9) ko_X7_isNeighbourOf km_X3_21 ki_X7_isNeighbourOf ks_X7_isNeighbourOf kn_X7 (by decide +kernel) rfl hc_7 rfl hl.1 rfl (by simp [Value.category]) dX3_fault_40 (by rw [hR]; exact ⟨rfl, rfl, Nat.le_of_ble_eq_true rfl, Nat.le_of_ble_eq_true rfl, by simp, by simp⟩) (fun r_25 ah_26 H_27 L_28 st_29 hp hw hst => ?_)
          obtain ⟨rfl, rfl⟩ := hp
          have hst : st_29 = [.int (bI (sgNeigh g1 nx1 g2 nx2))] := hst
          subst hst
          have J_32 : ∀ (v_31 : Int32) (ls : Array Slot), lv_has ls 4 [(3, .int ((mtMeet mx my fx1 fy1 tx1 ty1 bx0p by0p bx1p by1p fx2 fy2 tx2 ty2 bx0q by0q bx1q by1q).1)), (0, .ref mt), (1, .ref g1), (2, .ref g2)] → v_31 = (if sgNeigh g1 nx1 g2 nx2 = false then 5 else 0) → W p l e R s m args below meth c H_27 L_28 (0 + 0 + 0) (0 + 0 + 0) Q (F0 m 51 ls [.int v_31]) := by
            intro v_31 ls hl ev_31
            have hv : (v_31, (mtMeet mx my fx1 fy1 tx1 ty1 bx0p by0p bx1p by1p fx2 fy2 tx2 ty2 bx0q by0q bx1q by1q).2.1, (mtMeet mx my fx1 fy1 tx1 ty1 bx0p by0p bx1p by1p fx2 fy2 tx2 ty2 bx0q by0q bx1q by1q).2.2) = mtFault mx my g1 nx1 rg1 fx1 fy1 tx1 ty1 bx0p by0p bx1p by1p tx3 ty3 g2 nx2 rg2 fx2 fy2 tx2 ty2 bx0q by0q bx1q by1q tx4 ty4 := by
              subst ev_31
              unfold mtFault
              all_goals rw [if_neg c_13, if_neg c_14, if_neg c_15, if_pos c_16]
            have hh : ah_2 = hup ah mt (.inr (3, [.int ((mtMeet mx my fx1 fy1 tx1 ty1 bx0p by0p bx1p by1p fx2 fy2 tx2 ty2 bx0q by0q bx1q by1q).2.1), .int ((mtMeet mx my fx1 fy1 tx1 ty1 bx0p by0p bx1p by1p fx2 fy2 tx2 ty2 bx0q by0q bx1q by1q).2.2)])) := by first | exact (hup_id hem).symm | (subst_vars; simp only [hup_hup])
            rw [hQ]
            exact h_iret hx hb hr hlk hsz hw (by simp) (by simp) dX3_fault_51 ⟨congrArg (a₁ := (v_31, (mtMeet mx my fx1 fy1 tx1 ty1 bx0p by0p bx1p by1p fx2 fy2 tx2 ty2 bx0q by0q bx1q by1q).2.1, (mtMeet mx my fx1 fy1 tx1 ty1 bx0p by0p bx1p by1p fx2 fy2 tx2 ty2 bx0q by0q bx1q by1q).2.2)) (a₂ := mtFault mx my g1 nx1 rg1 fx1 fy1 tx1 ty1 bx0p by0p bx1p by1p tx3 ty3 g2 nx2 rg2 fx2 fy2 tx2 ty2 bx0q by0q bx1q by1q tx4 ty4) (fun z : Int32 × Int32 × Int32 => some (Value.int z.1)) hv, hh.trans (congrArg (a₁ := (v_31, (mtMeet mx my fx1 fy1 tx1 ty1 bx0p by0p bx1p by1p fx2 fy2 tx2 ty2 bx0q by0q bx1q by1q).2.1, (mtMeet mx my fx1 fy1 tx1 ty1 bx0p by0p bx1p by1p fx2 fy2 tx2 ty2 bx0q by0q bx1q by1q).2.2)) (a₂ := mtFault mx my g1 nx1 rg1 fx1 fy1 tx1 ty1 bx0p by0p bx1p by1p tx3 ty3 g2 nx2 rg2 fx2 fy2 tx2 ty2 bx0q by0q bx1q by1q tx4 ty4) (fun z : Int32 × Int32 × Int32 => hup ah mt (.inr (3, [.int z.2.1, .int z.2.2]))) hv)⟩
          refine lv_if_eq (tgt := 50) hx hb dX3_fault_43 (by decide) (fun c_30 => ?_) (fun c_30 => ?_)
          · skip
            have c_30 : sgNeigh g1 nx1 g2 nx2 = false := bI_0.mp c_30
            refine lv_iconst (v := 5) hx hb dX3_fault_50 (by decide) ?_
            exact J_32 5 ls (lv_sub hl [0, 1, 2, 3] rfl) (by rw [if_pos c_30])
          · skip
            have c_30 : ¬ (sgNeigh g1 nx1 g2 nx2 = false) := (not_congr bI_0).mp c_30
            refine lv_iconst (v := 0) hx hb dX3_fault_46 (by decide) ?_
            refine lv_goto (tgt := 51) hx hb dX3_fault_47 (by decide) ?_
            exact J_32 0 ls (lv_sub hl [0, 1, 2, 3] rfl) (by rw [if_neg c_30])
      · skip
        refine lv_iconst (v := 4) hx hb dX3_fault_25 (by decide) ?_
        have hv : (4, (mtMeet mx my fx1 fy1 tx1 ty1 bx0p by0p bx1p by1p fx2 fy2 tx2 ty2 bx0q by0q bx1q by1q).2.1, (mtMeet mx my fx1 fy1 tx1 ty1 bx0p by0p bx1p by1p fx2 fy2 tx2 ty2 bx0q by0q bx1q by1q).2.2) = mtFault mx my g1 nx1 rg1 fx1 fy1 tx1 ty1 bx0p by0p bx1p by1p tx3 ty3 g2 nx2 rg2 fx2 fy2 tx2 ty2 bx0q by0q bx1q by1q tx4 ty4 := by
          unfold mtFault
          all_goals rw [if_neg c_13, if_neg c_14, if_pos c_15]
        have hh : ah_2 = hup ah mt (.inr (3, [.int ((mtMeet mx my fx1 fy1 tx1 ty1 bx0p by0p bx1p by1p fx2 fy2 tx2 ty2 bx0q by0q bx1q by1q).2.1), .int ((mtMeet mx my fx1 fy1 tx1 ty1 bx0p by0p bx1p by1p fx2 fy2 tx2 ty2 bx0q by0q bx1q by1q).2.2)])) := by first | exact (hup_id hem).symm | (subst_vars; simp only [hup_hup])
        rw [hQ]
        exact h_iret hx hb hr hlk hsz hw (by simp) (by simp) dX3_fault_26 ⟨congrArg (a₁ := (4, (mtMeet mx my fx1 fy1 tx1 ty1 bx0p by0p bx1p by1p fx2 fy2 tx2 ty2 bx0q by0q bx1q by1q).2.1, (mtMeet mx my fx1 fy1 tx1 ty1 bx0p by0p bx1p by1p fx2 fy2 tx2 ty2 bx0q by0q bx1q by1q).2.2)) (a₂ := mtFault mx my g1 nx1 rg1 fx1 fy1 tx1 ty1 bx0p by0p bx1p by1p tx3 ty3 g2 nx2 rg2 fx2 fy2 tx2 ty2 bx0q by0q bx1q by1q tx4 ty4) (fun z : Int32 × Int32 × Int32 => some (Value.int z.1)) hv, hh.trans (congrArg (a₁ := (4, (mtMeet mx my fx1 fy1 tx1 ty1 bx0p by0p bx1p by1p fx2 fy2 tx2 ty2 bx0q by0q bx1q by1q).2.1, (mtMeet mx my fx1 fy1 tx1 ty1 bx0p by0p bx1p by1p fx2 fy2 tx2 ty2 bx0q by0q bx1q by1q).2.2)) (a₂ := mtFault mx my g1 nx1 rg1 fx1 fy1 tx1 ty1 bx0p by0p bx1p by1p tx3 ty3 g2 nx2 rg2 fx2 fy2 tx2 ty2 bx0q by0q bx1q by1q tx4 ty4) (fun z : Int32 × Int32 × Int32 => hup ah mt (.inr (3, [.int z.2.1, .int z.2.2]))) hv)⟩
    · skip
      refine lv_iconst (v := 3) hx hb dX3_fault_18 (by decide) ?_
      have hv : (3, (mtMeet mx my fx1 fy1 tx1 ty1 bx0p by0p bx1p by1p fx2 fy2 tx2 ty2 bx0q by0q bx1q by1q).2.1, (mtMeet mx my fx1 fy1 tx1 ty1 bx0p by0p bx1p by1p fx2 fy2 tx2 ty2 bx0q by0q bx1q by1q).2.2) = mtFault mx my g1 nx1 rg1 fx1 fy1 tx1 ty1 bx0p by0p bx1p by1p tx3 ty3 g2 nx2 rg2 fx2 fy2 tx2 ty2 bx0q by0q bx1q by1q tx4 ty4 := by
        unfold mtFault
        all_goals rw [if_neg c_13, if_pos c_14]
      have hh : ah_2 = hup ah mt (.inr (3, [.int ((mtMeet mx my fx1 fy1 tx1 ty1 bx0p by0p bx1p by1p fx2 fy2 tx2 ty2 bx0q by0q bx1q by1q).2.1), .int ((mtMeet mx my fx1 fy1 tx1 ty1 bx0p by0p bx1p by1p fx2 fy2 tx2 ty2 bx0q by0q bx1q by1q).2.2)])) := by first | exact (hup_id hem).symm | (subst_vars; simp only [hup_hup])
      rw [hQ]
      exact h_iret hx hb hr hlk hsz hw (by simp) (by simp) dX3_fault_19 ⟨congrArg (a₁ := (3, (mtMeet mx my fx1 fy1 tx1 ty1 bx0p by0p bx1p by1p fx2 fy2 tx2 ty2 bx0q by0q bx1q by1q).2.1, (mtMeet mx my fx1 fy1 tx1 ty1 bx0p by0p bx1p by1p fx2 fy2 tx2 ty2 bx0q by0q bx1q by1q).2.2)) (a₂ := mtFault mx my g1 nx1 rg1 fx1 fy1 tx1 ty1 bx0p by0p bx1p by1p tx3 ty3 g2 nx2 rg2 fx2 fy2 tx2 ty2 bx0q by0q bx1q by1q tx4 ty4) (fun z : Int32 × Int32 × Int32 => some (Value.int z.1)) hv, hh.trans (congrArg (a₁ := (3, (mtMeet mx my fx1 fy1 tx1 ty1 bx0p by0p bx1p by1p fx2 fy2 tx2 ty2 bx0q by0q bx1q by1q).2.1, (mtMeet mx my fx1 fy1 tx1 ty1 bx0p by0p bx1p by1p fx2 fy2 tx2 ty2 bx0q by0q bx1q by1q).2.2)) (a₂ := mtFault mx my g1 nx1 rg1 fx1 fy1 tx1 ty1 bx0p by0p bx1p by1p tx3 ty3 g2 nx2 rg2 fx2 fy2 tx2 ty2 bx0q by0q bx1q by1q tx4 ty4) (fun z : Int32 × Int32 × Int32 => hup ah mt (.inr (3, [.int z.2.1, .int z.2.2]))) hv)⟩
  · skip
    refine lv_iconst (v := 0) hx hb dX3_fault_11 (by decide) ?_
    have hv : (0, (mtMeet mx my fx1 fy1 tx1 ty1 bx0p by0p bx1p by1p fx2 fy2 tx2 ty2 bx0q by0q bx1q by1q).2.1, (mtMeet mx my fx1 fy1 tx1 ty1 bx0p by0p bx1p by1p fx2 fy2 tx2 ty2 bx0q by0q bx1q by1q).2.2) = mtFault mx my g1 nx1 rg1 fx1 fy1 tx1 ty1 bx0p by0p bx1p by1p tx3 ty3 g2 nx2 rg2 fx2 fy2 tx2 ty2 bx0q by0q bx1q by1q tx4 ty4 := by
      unfold mtFault
      all_goals rw [if_pos c_13]
    have hh : ah_2 = hup ah mt (.inr (3, [.int ((mtMeet mx my fx1 fy1 tx1 ty1 bx0p by0p bx1p by1p fx2 fy2 tx2 ty2 bx0q by0q bx1q by1q).2.1), .int ((mtMeet mx my fx1 fy1 tx1 ty1 bx0p by0p bx1p by1p fx2 fy2 tx2 ty2 bx0q by0q bx1q by1q).2.2)])) := by first | exact (hup_id hem).symm | (subst_vars; simp only [hup_hup])
    rw [hQ]
    exact h_iret hx hb hr hlk hsz hw (by simp) (by simp) dX3_fault_12 ⟨congrArg (a₁ := (0, (mtMeet mx my fx1 fy1 tx1 ty1 bx0p by0p bx1p by1p fx2 fy2 tx2 ty2 bx0q by0q bx1q by1q).2.1, (mtMeet mx my fx1 fy1 tx1 ty1 bx0p by0p bx1p by1p fx2 fy2 tx2 ty2 bx0q by0q bx1q by1q).2.2)) (a₂ := mtFault mx my g1 nx1 rg1 fx1 fy1 tx1 ty1 bx0p by0p bx1p by1p tx3 ty3 g2 nx2 rg2 fx2 fy2 tx2 ty2 bx0q by0q bx1q by1q tx4 ty4) (fun z : Int32 × Int32 × Int32 => some (Value.int z.1)) hv, hh.trans (congrArg (a₁ := (0, (mtMeet mx my fx1 fy1 tx1 ty1 bx0p by0p bx1p by1p fx2 fy2 tx2 ty2 bx0q by0q bx1q by1q).2.1, (mtMeet mx my fx1 fy1 tx1 ty1 bx0p by0p bx1p by1p fx2 fy2 tx2 ty2 bx0q by0q bx1q by1q).2.2)) (a₂ := mtFault mx my g1 nx1 rg1 fx1 fy1 tx1 ty1 bx0p by0p bx1p by1p tx3 ty3 g2 nx2 rg2 fx2 fy2 tx2 ty2 bx0q by0q bx1q by1q tx4 ty4) (fun z : Int32 × Int32 × Int32 => hup ah mt (.inr (3, [.int z.2.1, .int z.2.2]))) hv)⟩

/-! ShapeJudge$Box -/
def iMin (a b : Int32) : Int32 := if b < a then b else a
def iMax (a b : Int32) : Int32 := if a < b then b else a
def bxHas (bx0 by0 bx1 by1 x y : Int32) : Bool := (if x < bx0 then false else (if bx1 < x then false else (if y < by0 then false else (if by1 < y then false else true))))
set_option maxHeartbeats 4000000 in
set_option maxRecDepth 100000 in
theorem c_X0_has (l : Launch) (D : va_G) (dT : Nat → ClassId) (ah : hA) (sz : Nat) (b : Nat) (bx0 by0 bx1 by1 : Int32) (he : ah b = some (.inr (0, [.int bx0, .int by0, .int bx1, .int by1]))) (x y : Int32) : hMet l yX0_has cX0_has 3 (some .boolean) ({ frames := 0, cells := 0, slots := 0, locals := 0 }) D dT [.ref b, .int x, .int y] ah sz (fun r ah2 => r = some (.int (bI (bxHas bx0 by0 bx1 by1 x y))) ∧ ah = ah2) 0 0 := by
  refine h_met (by decide) (Nat.le_of_ble_eq_true rfl) ?_
  intro p e s m below meth c ls R Q args hav hR hQ hB hl hsz hw
  obtain ⟨hx, hb, hml, hr, hts, hown, hlk, hin, hK⟩ := hB
  have hown : s.vm.findClass RX0 = some m.cls := hown
  have hl : lv_has ls 3 [(0, .ref b), (1, .int x), (2, .int y)] := hl
  refine lv_iload_n hx hb dX0_has_0 rfl (lv_at hl 1 rfl) ?_
  refine lv_aload_n hx hb dX0_has_1 rfl (lv_at hl 0 rfl) ?_
  refine h_get (ci := 0) (v := .int bx0) (C := RX0) (T := TX0) (N := 4) hx hb hts kl_X0 hown hK hw he rfl 0 (by decide) (hts _ kf_X0_10) rfl rfl dX0_has_2 ?_
  have J_6 : ∀ (v_5 : Int32) (ls : Array Slot), lv_has ls 3 [(0, .ref b), (1, .int x), (2, .int y)] → v_5 = (if x < bx0 then 0 else (if bx1 < x then 0 else (if y < by0 then 0 else (if by1 < y then 0 else 1)))) → W p l e R s m args below meth c s.heap [] (0) (0) Q (F0 m 37 ls [.int v_5]) := by
    intro v_5 ls hl ev_5
    have hv : v_5 = bI (bxHas bx0 by0 bx1 by1 x y) := by
      subst ev_5
      unfold bxHas
      simp only [bI_if, bI_t, bI_f]
      all_goals rfl
    rw [hQ]
    exact h_zret hx hb hr hlk hsz hw (by simp) (by simp) dX0_has_37 (bI_v hv) ⟨congrArg (fun z => some (Value.int z)) hv, rfl⟩
  refine lv_icmp_lt (tgt := 36) hx hb dX0_has_5 (by decide) (fun c_1 => ?_) (fun c_1 => ?_)
  · skip
    refine lv_iconst (v := 0) hx hb dX0_has_36 (by decide) ?_
    exact J_6 0 ls (lv_sub hl [0, 1, 2] rfl) (by rw [if_pos c_1])
  · skip
    refine lv_iload_n hx hb dX0_has_8 rfl (lv_at hl 1 rfl) ?_
    refine lv_aload_n hx hb dX0_has_9 rfl (lv_at hl 0 rfl) ?_
    refine h_get (ci := 0) (v := .int bx1) (C := RX0) (T := TX0) (N := 4) hx hb hts kl_X0 hown hK hw he rfl 2 (by decide) (hts _ kf_X0_20) rfl rfl dX0_has_10 ?_
    refine lv_icmp_gt (tgt := 36) hx hb dX0_has_13 (by decide) (fun c_2 => ?_) (fun c_2 => ?_)
    · skip
      refine lv_iconst (v := 0) hx hb dX0_has_36 (by decide) ?_
      exact J_6 0 ls (lv_sub hl [0, 1, 2] rfl) (by rw [if_neg c_1, if_pos c_2])
    · skip
      refine lv_iload_n hx hb dX0_has_16 rfl (lv_at hl 2 rfl) ?_
      refine lv_aload_n hx hb dX0_has_17 rfl (lv_at hl 0 rfl) ?_
      refine h_get (ci := 0) (v := .int by0) (C := RX0) (T := TX0) (N := 4) hx hb hts kl_X0 hown hK hw he rfl 1 (by decide) (hts _ kf_X0_16) rfl rfl dX0_has_18 ?_
      refine lv_icmp_lt (tgt := 36) hx hb dX0_has_21 (by decide) (fun c_3 => ?_) (fun c_3 => ?_)
      · skip
        refine lv_iconst (v := 0) hx hb dX0_has_36 (by decide) ?_
        exact J_6 0 ls (lv_sub hl [0, 1, 2] rfl) (by rw [if_neg c_1, if_neg c_2, if_pos c_3])
      · skip
        refine lv_iload_n hx hb dX0_has_24 rfl (lv_at hl 2 rfl) ?_
        refine lv_aload_n hx hb dX0_has_25 rfl (lv_at hl 0 rfl) ?_
        refine h_get (ci := 0) (v := .int by1) (C := RX0) (T := TX0) (N := 4) hx hb hts kl_X0 hown hK hw he rfl 3 (by decide) (hts _ kf_X0_23) rfl rfl dX0_has_26 ?_
        refine lv_icmp_gt (tgt := 36) hx hb dX0_has_29 (by decide) (fun c_4 => ?_) (fun c_4 => ?_)
        · skip
          refine lv_iconst (v := 0) hx hb dX0_has_36 (by decide) ?_
          exact J_6 0 ls (lv_sub hl [0, 1, 2] rfl) (by rw [if_neg c_1, if_neg c_2, if_neg c_3, if_pos c_4])
        · skip
          refine lv_iconst (v := 1) hx hb dX0_has_32 (by decide) ?_
          refine lv_goto (tgt := 37) hx hb dX0_has_33 (by decide) ?_
          exact J_6 1 ls (lv_sub hl [0, 1, 2] rfl) (by rw [if_neg c_1, if_neg c_2, if_neg c_3, if_neg c_4])

def bxApart (bx0 by0 bx1 by1 bx02 by02 bx12 by12 : Int32) : Bool := (if bx12 < bx0 then true else (if bx1 < bx02 then true else (if by12 < by0 then true else (if by02 ≤ by1 then false else true))))
set_option maxHeartbeats 4000000 in
set_option maxRecDepth 100000 in
theorem c_X0_isApartFrom (l : Launch) (D : va_G) (dT : Nat → ClassId) (ah : hA) (sz : Nat) (b : Nat) (bx0 by0 bx1 by1 : Int32) (he : ah b = some (.inr (0, [.int bx0, .int by0, .int bx1, .int by1]))) (b2 : Nat) (bx02 by02 bx12 by12 : Int32) (he2 : ah b2 = some (.inr (0, [.int bx02, .int by02, .int bx12, .int by12]))) : hMet l yX0_isApartFrom cX0_isApartFrom 2 (some .boolean) ({ frames := 0, cells := 0, slots := 0, locals := 0 }) D dT [.ref b, .ref b2] ah sz (fun r ah2 => r = some (.int (bI (bxApart bx0 by0 bx1 by1 bx02 by02 bx12 by12))) ∧ ah = ah2) 0 0 := by
  refine h_met (by decide) (Nat.le_of_ble_eq_true rfl) ?_
  intro p e s m below meth c ls R Q args hav hR hQ hB hl hsz hw
  obtain ⟨hx, hb, hml, hr, hts, hown, hlk, hin, hK⟩ := hB
  have hown : s.vm.findClass RX0 = some m.cls := hown
  have hl : lv_has ls 2 [(0, .ref b), (1, .ref b2)] := hl
  refine lv_aload_n hx hb dX0_isApartFrom_0 rfl (lv_at hl 0 rfl) ?_
  refine h_get (ci := 0) (v := .int bx0) (C := RX0) (T := TX0) (N := 4) hx hb hts kl_X0 hown hK hw he rfl 0 (by decide) (hts _ kf_X0_10) rfl rfl dX0_isApartFrom_1 ?_
  refine lv_aload_n hx hb dX0_isApartFrom_4 rfl (lv_at hl 1 rfl) ?_
  refine h_get (ci := 0) (v := .int bx12) (C := RX0) (T := TX0) (N := 4) hx hb hts kl_X0 hown hK hw he2 rfl 2 (by decide) (hts _ kf_X0_20) rfl rfl dX0_isApartFrom_5 ?_
  have J_6 : ∀ (v_5 : Int32) (ls : Array Slot), lv_has ls 2 [(0, .ref b), (1, .ref b2)] → v_5 = (if bx12 < bx0 then 1 else (if bx1 < bx02 then 1 else (if by12 < by0 then 1 else (if by02 ≤ by1 then 0 else 1)))) → W p l e R s m args below meth c s.heap [] (0) (0) Q (F0 m 49 ls [.int v_5]) := by
    intro v_5 ls hl ev_5
    have hv : v_5 = bI (bxApart bx0 by0 bx1 by1 bx02 by02 bx12 by12) := by
      subst ev_5
      unfold bxApart
      simp only [bI_if, bI_t, bI_f]
      all_goals rfl
    rw [hQ]
    exact h_zret hx hb hr hlk hsz hw (by simp) (by simp) dX0_isApartFrom_49 (bI_v hv) ⟨congrArg (fun z => some (Value.int z)) hv, rfl⟩
  refine lv_icmp_gt (tgt := 44) hx hb dX0_isApartFrom_8 (by decide) (fun c_1 => ?_) (fun c_1 => ?_)
  · skip
    refine lv_iconst (v := 1) hx hb dX0_isApartFrom_44 (by decide) ?_
    refine lv_goto (tgt := 49) hx hb dX0_isApartFrom_45 (by decide) ?_
    exact J_6 1 ls (lv_sub hl [0, 1] rfl) (by rw [if_pos c_1])
  · skip
    refine lv_aload_n hx hb dX0_isApartFrom_11 rfl (lv_at hl 0 rfl) ?_
    refine h_get (ci := 0) (v := .int bx1) (C := RX0) (T := TX0) (N := 4) hx hb hts kl_X0 hown hK hw he rfl 2 (by decide) (hts _ kf_X0_20) rfl rfl dX0_isApartFrom_12 ?_
    refine lv_aload_n hx hb dX0_isApartFrom_15 rfl (lv_at hl 1 rfl) ?_
    refine h_get (ci := 0) (v := .int bx02) (C := RX0) (T := TX0) (N := 4) hx hb hts kl_X0 hown hK hw he2 rfl 0 (by decide) (hts _ kf_X0_10) rfl rfl dX0_isApartFrom_16 ?_
    refine lv_icmp_lt (tgt := 44) hx hb dX0_isApartFrom_19 (by decide) (fun c_2 => ?_) (fun c_2 => ?_)
    · skip
      refine lv_iconst (v := 1) hx hb dX0_isApartFrom_44 (by decide) ?_
      refine lv_goto (tgt := 49) hx hb dX0_isApartFrom_45 (by decide) ?_
      exact J_6 1 ls (lv_sub hl [0, 1] rfl) (by rw [if_neg c_1, if_pos c_2])
    · skip
      refine lv_aload_n hx hb dX0_isApartFrom_22 rfl (lv_at hl 0 rfl) ?_
      refine h_get (ci := 0) (v := .int by0) (C := RX0) (T := TX0) (N := 4) hx hb hts kl_X0 hown hK hw he rfl 1 (by decide) (hts _ kf_X0_16) rfl rfl dX0_isApartFrom_23 ?_
      refine lv_aload_n hx hb dX0_isApartFrom_26 rfl (lv_at hl 1 rfl) ?_
      refine h_get (ci := 0) (v := .int by12) (C := RX0) (T := TX0) (N := 4) hx hb hts kl_X0 hown hK hw he2 rfl 3 (by decide) (hts _ kf_X0_23) rfl rfl dX0_isApartFrom_27 ?_
      refine lv_icmp_gt (tgt := 44) hx hb dX0_isApartFrom_30 (by decide) (fun c_3 => ?_) (fun c_3 => ?_)
      · skip
        refine lv_iconst (v := 1) hx hb dX0_isApartFrom_44 (by decide) ?_
        refine lv_goto (tgt := 49) hx hb dX0_isApartFrom_45 (by decide) ?_
        exact J_6 1 ls (lv_sub hl [0, 1] rfl) (by rw [if_neg c_1, if_neg c_2, if_pos c_3])
      · skip
        refine lv_aload_n hx hb dX0_isApartFrom_33 rfl (lv_at hl 0 rfl) ?_
        refine h_get (ci := 0) (v := .int by1) (C := RX0) (T := TX0) (N := 4) hx hb hts kl_X0 hown hK hw he rfl 3 (by decide) (hts _ kf_X0_23) rfl rfl dX0_isApartFrom_34 ?_
        refine lv_aload_n hx hb dX0_isApartFrom_37 rfl (lv_at hl 1 rfl) ?_
        refine h_get (ci := 0) (v := .int by02) (C := RX0) (T := TX0) (N := 4) hx hb hts kl_X0 hown hK hw he2 rfl 1 (by decide) (hts _ kf_X0_16) rfl rfl dX0_isApartFrom_38 ?_
        refine lv_icmp_ge (tgt := 48) hx hb dX0_isApartFrom_41 (by decide) (fun c_4 => ?_) (fun c_4 => ?_)
        · skip
          refine lv_iconst (v := 0) hx hb dX0_isApartFrom_48 (by decide) ?_
          exact J_6 0 ls (lv_sub hl [0, 1] rfl) (by rw [if_neg c_1, if_neg c_2, if_neg c_3, if_pos c_4])
        · skip
          refine lv_iconst (v := 1) hx hb dX0_isApartFrom_44 (by decide) ?_
          refine lv_goto (tgt := 49) hx hb dX0_isApartFrom_45 (by decide) ?_
          exact J_6 1 ls (lv_sub hl [0, 1] rfl) (by rw [if_neg c_1, if_neg c_2, if_neg c_3, if_neg c_4])

set_option maxHeartbeats 4000000 in
set_option maxRecDepth 100000 in
theorem c_X0_init (l : Launch) (D : va_G) (dT : Nat → ClassId) (ah : hA) (sz : Nat) (b : Nat) (bx0 by0 bx1 by1 : Int32) (he : ah b = some (.inr (0, [.int bx0, .int by0, .int bx1, .int by1]))) : hMet l yX0_init cX0_init 1 none ({ frames := 1, cells := 0, slots := 0, locals := 20 }) D dT [.ref b] ah sz (fun r ah2 => r = none ∧ ah2 = hup ah b (.inr (0, [.int 1000000000, .int 1000000000, .int (-1000000000), .int (-1000000000)]))) 0 0 := by
  refine h_met (by decide) (Nat.le_of_ble_eq_true rfl) ?_
  intro p e s m below meth c ls R Q args hav hR hQ hB hl hsz hw
  obtain ⟨hx, hb, hml, hr, hts, hown, hlk, hin, hK⟩ := hB
  have hown : s.vm.findClass RX0 = some m.cls := hown
  have hl : lv_has ls 1 [(0, .ref b)] := hl
  refine lv_aload_n hx hb dX0_init_0 rfl (lv_at hl 0 rfl) ?_
  refine W.objInit hx hb hown (hts _ km_X0_3) (hts _ ki_obj) (hts _ ko_obj) rfl (by rw [hml]; exact hl.1) rfl dX0_init_1 (by rw [hR]; exact Nat.le_of_ble_eq_true rfl) (by rw [hR]; exact Nat.le_of_ble_eq_true rfl) ?_
  refine W.eq (g2 := F0 m 4 ls []) rfl ?_
  refine lv_aload_n hx hb dX0_init_4 rfl (lv_at hl 0 rfl) ?_
  refine lv_ldc (v := 1000000000) hx hb hown (hts _ kk_X0_9) dX0_init_5 ?_
  refine h_put (ci := 0) (v := .int 1000000000) (C := RX0) (T := TX0) (N := 4) hx hb hts kl_X0 tyX0 tyX0_ok nmX0 hown hK hw he rfl 0 (by decide) (hts _ kf_X0_10) rfl rfl (tyX0_ok 0 (by decide)) rfl rfl (Nat.le_of_ble_eq_true rfl) dX0_init_7 (fun H_1 L_2 hw => ?_)
  obtain ⟨ah_3, eah_3⟩ : ∃ z9 : hA, z9 = hup ah b (.inr (0, [.int 1000000000, .int by0, .int bx1, .int by1])) := ⟨_, rfl⟩
  have hw : hW D ah s.heap ah_3 H_1 L_2 := by rw [eah_3]; exact hw
  have hc_4 : ah_3 b = some (.inr (0, [.int 1000000000, .int by0, .int bx1, .int by1])) := by rw [eah_3]; exact hup_s
  refine lv_aload_n hx hb dX0_init_10 rfl (lv_at hl 0 rfl) ?_
  refine lv_ldc (v := 1000000000) hx hb hown (hts _ kk_X0_9) dX0_init_11 ?_
  refine h_put (ci := 0) (v := .int 1000000000) (C := RX0) (T := TX0) (N := 4) hx hb hts kl_X0 tyX0 tyX0_ok nmX0 hown hK hw hc_4 rfl 1 (by decide) (hts _ kf_X0_16) rfl rfl (tyX0_ok 1 (by decide)) rfl rfl (Nat.le_of_ble_eq_true rfl) dX0_init_13 (fun H_5 L_6 hw => ?_)
  obtain ⟨ah_7, eah_7⟩ : ∃ z9 : hA, z9 = hup ah_3 b (.inr (0, [.int 1000000000, .int 1000000000, .int bx1, .int by1])) := ⟨_, rfl⟩
  have hw : hW D ah s.heap ah_7 H_5 L_6 := by rw [eah_7]; exact hw
  have hc_8 : ah_7 b = some (.inr (0, [.int 1000000000, .int 1000000000, .int bx1, .int by1])) := by rw [eah_7]; exact hup_s
  refine lv_aload_n hx hb dX0_init_16 rfl (lv_at hl 0 rfl) ?_
  refine lv_ldc (v := (-1000000000)) hx hb hown (hts _ kk_X0_19) dX0_init_17 ?_
  refine h_put (ci := 0) (v := .int (-1000000000)) (C := RX0) (T := TX0) (N := 4) hx hb hts kl_X0 tyX0 tyX0_ok nmX0 hown hK hw hc_8 rfl 2 (by decide) (hts _ kf_X0_20) rfl rfl (tyX0_ok 2 (by decide)) rfl rfl (Nat.le_of_ble_eq_true rfl) dX0_init_19 (fun H_9 L_10 hw => ?_)
  obtain ⟨ah_11, eah_11⟩ : ∃ z9 : hA, z9 = hup ah_7 b (.inr (0, [.int 1000000000, .int 1000000000, .int (-1000000000), .int by1])) := ⟨_, rfl⟩
  have hw : hW D ah s.heap ah_11 H_9 L_10 := by rw [eah_11]; exact hw
  have hc_12 : ah_11 b = some (.inr (0, [.int 1000000000, .int 1000000000, .int (-1000000000), .int by1])) := by rw [eah_11]; exact hup_s
  refine lv_aload_n hx hb dX0_init_22 rfl (lv_at hl 0 rfl) ?_
  refine lv_ldc (v := (-1000000000)) hx hb hown (hts _ kk_X0_19) dX0_init_23 ?_
  refine h_put (ci := 0) (v := .int (-1000000000)) (C := RX0) (T := TX0) (N := 4) hx hb hts kl_X0 tyX0 tyX0_ok nmX0 hown hK hw hc_12 rfl 3 (by decide) (hts _ kf_X0_23) rfl rfl (tyX0_ok 3 (by decide)) rfl rfl (Nat.le_of_ble_eq_true rfl) dX0_init_25 (fun H_13 L_14 hw => ?_)
  obtain ⟨ah_15, eah_15⟩ : ∃ z9 : hA, z9 = hup ah_11 b (.inr (0, [.int 1000000000, .int 1000000000, .int (-1000000000), .int (-1000000000)])) := ⟨_, rfl⟩
  have hw : hW D ah s.heap ah_15 H_13 L_14 := by rw [eah_15]; exact hw
  have hc_16 : ah_15 b = some (.inr (0, [.int 1000000000, .int 1000000000, .int (-1000000000), .int (-1000000000)])) := by rw [eah_15]; exact hup_s
  rw [hQ]
  exact h_vret hx hb hr hlk hsz hw (by simp) (by simp) dX0_init_28 ⟨rfl, by subst_vars; simp only [hup_hup]⟩

set_option maxHeartbeats 4000000 in
set_option maxRecDepth 100000 in
theorem c_X0_take (l : Launch) (D : va_G) (dT : Nat → ClassId) (ah : hA) (sz : Nat) (b : Nat) (bx0 by0 bx1 by1 : Int32) (he : ah b = some (.inr (0, [.int bx0, .int by0, .int bx1, .int by1]))) (x y : Int32) : hMet l yX0_take cX0_take 3 none ({ frames := 1, cells := 0, slots := 0, locals := 24 }) D dT [.ref b, .int x, .int y] ah sz (fun r ah2 => r = none ∧ ah2 = hup ah b (.inr (0, [.int (iMin bx0 x), .int (iMin by0 y), .int (iMax bx1 x), .int (iMax by1 y)]))) 0 0 := by
  refine h_met (by decide) (Nat.le_of_ble_eq_true rfl) ?_
  intro p e s m below meth c ls R Q args hav hR hQ hB hl hsz hw
  obtain ⟨hx, hb, hml, hr, hts, hown, hlk, hin, hK⟩ := hB
  have hown : s.vm.findClass RX0 = some m.cls := hown
  have hl : lv_has ls 3 [(0, .ref b), (1, .int x), (2, .int y)] := hl
  refine lv_aload_n hx hb dX0_take_0 rfl (lv_at hl 0 rfl) ?_
  refine lv_aload_n hx hb dX0_take_1 rfl (lv_at hl 0 rfl) ?_
  refine h_get (ci := 0) (v := .int bx0) (C := RX0) (T := TX0) (N := 4) hx hb hts kl_X0 hown hK hw he rfl 0 (by decide) (hts _ kf_X0_10) rfl rfl dX0_take_2 ?_
  refine lv_iload_n hx hb dX0_take_5 rfl (lv_at hl 1 rfl) ?_
  refine va_mmin hx hb (by rw [hml]; exact hl.1.symm) hown (hts _ km_X0_26) (hts _ kt_J9_min_7cf53) (hts _ kn_J9) (hts _ ko_Math_min) (by rw [hR]; exact Nat.le_of_ble_eq_true rfl) (by rw [hR]; exact Nat.le_of_ble_eq_true rfl) (by rw [hR]; simp) (by rw [hR]; simp) dX0_take_6 ?_
  refine lv_topi (fun t_1 et_1 => ?_)
  obtain rfl : t_1 = iMin bx0 x := et_1
  refine h_put (ci := 0) (v := .int (iMin bx0 x)) (C := RX0) (T := TX0) (N := 4) hx hb hts kl_X0 tyX0 tyX0_ok nmX0 hown hK hw he rfl 0 (by decide) (hts _ kf_X0_10) rfl rfl (tyX0_ok 0 (by decide)) rfl rfl (Nat.le_of_ble_eq_true rfl) dX0_take_9 (fun H_2 L_3 hw => ?_)
  obtain ⟨ah_4, eah_4⟩ : ∃ z9 : hA, z9 = hup ah b (.inr (0, [.int (iMin bx0 x), .int by0, .int bx1, .int by1])) := ⟨_, rfl⟩
  have hw : hW D ah s.heap ah_4 H_2 L_3 := by rw [eah_4]; exact hw
  have hc_5 : ah_4 b = some (.inr (0, [.int (iMin bx0 x), .int by0, .int bx1, .int by1])) := by rw [eah_4]; exact hup_s
  refine lv_aload_n hx hb dX0_take_12 rfl (lv_at hl 0 rfl) ?_
  refine lv_aload_n hx hb dX0_take_13 rfl (lv_at hl 0 rfl) ?_
  refine h_get (ci := 0) (v := .int by0) (C := RX0) (T := TX0) (N := 4) hx hb hts kl_X0 hown hK hw hc_5 rfl 1 (by decide) (hts _ kf_X0_16) rfl rfl dX0_take_14 ?_
  refine lv_iload_n hx hb dX0_take_17 rfl (lv_at hl 2 rfl) ?_
  refine va_mmin hx hb (by rw [hml]; exact hl.1.symm) hown (hts _ km_X0_26) (hts _ kt_J9_min_7cf53) (hts _ kn_J9) (hts _ ko_Math_min) (by rw [hR]; exact Nat.le_of_ble_eq_true rfl) (by rw [hR]; exact Nat.le_of_ble_eq_true rfl) (by rw [hR]; simp) (by rw [hR]; simp) dX0_take_18 ?_
  refine lv_topi (fun t_6 et_6 => ?_)
  obtain rfl : t_6 = iMin by0 y := et_6
  refine h_put (ci := 0) (v := .int (iMin by0 y)) (C := RX0) (T := TX0) (N := 4) hx hb hts kl_X0 tyX0 tyX0_ok nmX0 hown hK hw hc_5 rfl 1 (by decide) (hts _ kf_X0_16) rfl rfl (tyX0_ok 1 (by decide)) rfl rfl (Nat.le_of_ble_eq_true rfl) dX0_take_21 (fun H_7 L_8 hw => ?_)
  obtain ⟨ah_9, eah_9⟩ : ∃ z9 : hA, z9 = hup ah_4 b (.inr (0, [.int (iMin bx0 x), .int (iMin by0 y), .int bx1, .int by1])) := ⟨_, rfl⟩
  have hw : hW D ah s.heap ah_9 H_7 L_8 := by rw [eah_9]; exact hw
  have hc_10 : ah_9 b = some (.inr (0, [.int (iMin bx0 x), .int (iMin by0 y), .int bx1, .int by1])) := by rw [eah_9]; exact hup_s
  refine lv_aload_n hx hb dX0_take_24 rfl (lv_at hl 0 rfl) ?_
  refine lv_aload_n hx hb dX0_take_25 rfl (lv_at hl 0 rfl) ?_
  refine h_get (ci := 0) (v := .int bx1) (C := RX0) (T := TX0) (N := 4) hx hb hts kl_X0 hown hK hw hc_10 rfl 2 (by decide) (hts _ kf_X0_20) rfl rfl dX0_take_26 ?_
  refine lv_iload_n hx hb dX0_take_29 rfl (lv_at hl 1 rfl) ?_
  refine va_mmax hx hb (by rw [hml]; exact hl.1.symm) hown (hts _ km_X0_32) (hts _ kt_J9_max_7cf53) (hts _ kn_J9) (hts _ ko_Math_max) (by rw [hR]; exact Nat.le_of_ble_eq_true rfl) (by rw [hR]; exact Nat.le_of_ble_eq_true rfl) (by rw [hR]; simp) (by rw [hR]; simp) dX0_take_30 ?_
  refine lv_topi (fun t_11 et_11 => ?_)
  obtain rfl : t_11 = iMax bx1 x := et_11
  refine h_put (ci := 0) (v := .int (iMax bx1 x)) (C := RX0) (T := TX0) (N := 4) hx hb hts kl_X0 tyX0 tyX0_ok nmX0 hown hK hw hc_10 rfl 2 (by decide) (hts _ kf_X0_20) rfl rfl (tyX0_ok 2 (by decide)) rfl rfl (Nat.le_of_ble_eq_true rfl) dX0_take_33 (fun H_12 L_13 hw => ?_)
  obtain ⟨ah_14, eah_14⟩ : ∃ z9 : hA, z9 = hup ah_9 b (.inr (0, [.int (iMin bx0 x), .int (iMin by0 y), .int (iMax bx1 x), .int by1])) := ⟨_, rfl⟩
  have hw : hW D ah s.heap ah_14 H_12 L_13 := by rw [eah_14]; exact hw
  have hc_15 : ah_14 b = some (.inr (0, [.int (iMin bx0 x), .int (iMin by0 y), .int (iMax bx1 x), .int by1])) := by rw [eah_14]; exact hup_s
  refine lv_aload_n hx hb dX0_take_36 rfl (lv_at hl 0 rfl) ?_
  refine lv_aload_n hx hb dX0_take_37 rfl (lv_at hl 0 rfl) ?_
  refine h_get (ci := 0) (v := .int by1) (C := RX0) (T := TX0) (N := 4) hx hb hts kl_X0 hown hK hw hc_15 rfl 3 (by decide) (hts _ kf_X0_23) rfl rfl dX0_take_38 ?_
  refine lv_iload_n hx hb dX0_take_41 rfl (lv_at hl 2 rfl) ?_
  refine va_mmax hx hb (by rw [hml]; exact hl.1.symm) hown (hts _ km_X0_32) (hts _ kt_J9_max_7cf53) (hts _ kn_J9) (hts _ ko_Math_max) (by rw [hR]; exact Nat.le_of_ble_eq_true rfl) (by rw [hR]; exact Nat.le_of_ble_eq_true rfl) (by rw [hR]; simp) (by rw [hR]; simp) dX0_take_42 ?_
  refine lv_topi (fun t_16 et_16 => ?_)
  obtain rfl : t_16 = iMax by1 y := et_16
  refine h_put (ci := 0) (v := .int (iMax by1 y)) (C := RX0) (T := TX0) (N := 4) hx hb hts kl_X0 tyX0 tyX0_ok nmX0 hown hK hw hc_15 rfl 3 (by decide) (hts _ kf_X0_23) rfl rfl (tyX0_ok 3 (by decide)) rfl rfl (Nat.le_of_ble_eq_true rfl) dX0_take_45 (fun H_17 L_18 hw => ?_)
  obtain ⟨ah_19, eah_19⟩ : ∃ z9 : hA, z9 = hup ah_14 b (.inr (0, [.int (iMin bx0 x), .int (iMin by0 y), .int (iMax bx1 x), .int (iMax by1 y)])) := ⟨_, rfl⟩
  have hw : hW D ah s.heap ah_19 H_17 L_18 := by rw [eah_19]; exact hw
  have hc_20 : ah_19 b = some (.inr (0, [.int (iMin bx0 x), .int (iMin by0 y), .int (iMax bx1 x), .int (iMax by1 y)])) := by rw [eah_19]; exact hup_s
  rw [hQ]
  exact h_vret hx hb hr hlk hsz hw (by simp) (by simp) dX0_take_48 ⟨rfl, by subst_vars; simp only [hup_hup]⟩

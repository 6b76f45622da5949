/-! ShapeJudge$Segment -/
def sgSide (fx fy tx ty x y : Int32) : Int64 := ((((tx).toInt64 - (fx).toInt64) * ((y).toInt64 - (fy).toInt64)) - (((ty).toInt64 - (fy).toInt64) * ((x).toInt64 - (fx).toInt64)))
set_option maxHeartbeats 4000000 in
set_option maxRecDepth 100000 in
theorem c_X7_side (l : Launch) (D : va_G) (dT : Nat → ClassId) (ah : hA) (sz : Nat) (g rg bx nx : Nat) (no fx fy tx ty : Int32) (he : ah g = some (.inr (7, [.ref rg, .int no, .int fx, .int fy, .int tx, .int ty, .ref bx, .ref nx]))) (x y : Int32) : hMet l yX7_side cX7_side 3 (some .long) ({ frames := 0, cells := 0, slots := 0, locals := 0 }) D dT [.ref g, .int x, .int y] ah sz (fun r ah2 => r = some (.long (sgSide fx fy tx ty x y)) ∧ ah = ah2) 0 0 := by
  refine h_met (by decide) (Nat.le_of_ble_eq_true rfl) ?_
  intro p e s m below meth c ls R Q args hav hR hQ hB hl hsz hw
  obtain ⟨hx, hb, hml, hr, hts, hown, hlk, hin, hK⟩ := hB
  have hown : s.vm.findClass RX7 = some m.cls := hown
  have hl : lv_has ls 3 [(0, .ref g), (1, .int x), (2, .int y)] := hl
  refine lv_aload_n hx hb dX7_side_0 rfl (lv_at hl 0 rfl) ?_
  refine h_get (ci := 7) (v := .int tx) (C := RX7) (T := TX7) (N := 8) hx hb hts kl_X7 hown hK hw he rfl 4 (by decide) (hts _ kf_X7_23) rfl rfl dX7_side_1 ?_
  refine lv_i2l (v := (tx).toInt64) hx hb dX7_side_4 rfl ?_
  refine lv_aload_n hx hb dX7_side_5 rfl (lv_at hl 0 rfl) ?_
  refine h_get (ci := 7) (v := .int fx) (C := RX7) (T := TX7) (N := 8) hx hb hts kl_X7 hown hK hw he rfl 2 (by decide) (hts _ kf_X7_17) rfl rfl dX7_side_6 ?_
  refine lv_i2l (v := (fx).toInt64) hx hb dX7_side_9 rfl ?_
  refine lv_lsub hx hb dX7_side_10 ?_
  refine lv_iload_n hx hb dX7_side_11 rfl (lv_at hl 2 rfl) ?_
  refine lv_i2l (v := (y).toInt64) hx hb dX7_side_12 rfl ?_
  refine lv_aload_n hx hb dX7_side_13 rfl (lv_at hl 0 rfl) ?_
  refine h_get (ci := 7) (v := .int fy) (C := RX7) (T := TX7) (N := 8) hx hb hts kl_X7 hown hK hw he rfl 3 (by decide) (hts _ kf_X7_20) rfl rfl dX7_side_14 ?_
  refine lv_i2l (v := (fy).toInt64) hx hb dX7_side_17 rfl ?_
  refine lv_lsub hx hb dX7_side_18 ?_
  refine lv_lmul hx hb dX7_side_19 ?_
  refine lv_aload_n hx hb dX7_side_20 rfl (lv_at hl 0 rfl) ?_
  refine h_get (ci := 7) (v := .int ty) (C := RX7) (T := TX7) (N := 8) hx hb hts kl_X7 hown hK hw he rfl 5 (by decide) (hts _ kf_X7_26) rfl rfl dX7_side_21 ?_
  refine lv_i2l (v := (ty).toInt64) hx hb dX7_side_24 rfl ?_
  refine lv_aload_n hx hb dX7_side_25 rfl (lv_at hl 0 rfl) ?_
  refine h_get (ci := 7) (v := .int fy) (C := RX7) (T := TX7) (N := 8) hx hb hts kl_X7 hown hK hw he rfl 3 (by decide) (hts _ kf_X7_20) rfl rfl dX7_side_26 ?_
  refine lv_i2l (v := (fy).toInt64) hx hb dX7_side_29 rfl ?_
  refine lv_lsub hx hb dX7_side_30 ?_
  refine lv_iload_n hx hb dX7_side_31 rfl (lv_at hl 1 rfl) ?_
  refine lv_i2l (v := (x).toInt64) hx hb dX7_side_32 rfl ?_
  refine lv_aload_n hx hb dX7_side_33 rfl (lv_at hl 0 rfl) ?_
  refine h_get (ci := 7) (v := .int fx) (C := RX7) (T := TX7) (N := 8) hx hb hts kl_X7 hown hK hw he rfl 2 (by decide) (hts _ kf_X7_17) rfl rfl dX7_side_34 ?_
  refine lv_i2l (v := (fx).toInt64) hx hb dX7_side_37 rfl ?_
  refine lv_lsub hx hb dX7_side_38 ?_
  refine lv_lmul hx hb dX7_side_39 ?_
  refine lv_lsub hx hb dX7_side_40 ?_
  have hv : ((((tx).toInt64 - (fx).toInt64) * ((y).toInt64 - (fy).toInt64)) - (((ty).toInt64 - (fy).toInt64) * ((x).toInt64 - (fx).toInt64))) = sgSide fx fy tx ty x y := by
    unfold sgSide
    all_goals rfl
  rw [hQ]
  exact h_lret hx hb hr hlk hsz hw (by simp) (by simp) dX7_side_41 ⟨congrArg (fun z => some (Value.long z)) hv, rfl⟩

def sgBegins (fx fy x y : Int32) : Bool := (if fx = x then (if fy = y then true else false) else false)
set_option maxHeartbeats 4000000 in
set_option maxRecDepth 100000 in
theorem c_X7_beginsAt (l : Launch) (D : va_G) (dT : Nat → ClassId) (ah : hA) (sz : Nat) (g rg bx nx : Nat) (no fx fy tx ty : Int32) (he : ah g = some (.inr (7, [.ref rg, .int no, .int fx, .int fy, .int tx, .int ty, .ref bx, .ref nx]))) (x y : Int32) : hMet l yX7_beginsAt cX7_beginsAt 3 (some .boolean) ({ frames := 0, cells := 0, slots := 0, locals := 0 }) D dT [.ref g, .int x, .int y] ah sz (fun r ah2 => r = some (.int (bI (sgBegins fx fy x y))) ∧ ah = ah2) 0 0 := by
  refine h_met (by decide) (Nat.le_of_ble_eq_true rfl) ?_
  intro p e s m below meth c ls R Q args hav hR hQ hB hl hsz hw
  obtain ⟨hx, hb, hml, hr, hts, hown, hlk, hin, hK⟩ := hB
  have hown : s.vm.findClass RX7 = some m.cls := hown
  have hl : lv_has ls 3 [(0, .ref g), (1, .int x), (2, .int y)] := hl
  refine lv_aload_n hx hb dX7_beginsAt_0 rfl (lv_at hl 0 rfl) ?_
  refine h_get (ci := 7) (v := .int fx) (C := RX7) (T := TX7) (N := 8) hx hb hts kl_X7 hown hK hw he rfl 2 (by decide) (hts _ kf_X7_17) rfl rfl dX7_beginsAt_1 ?_
  refine lv_iload_n hx hb dX7_beginsAt_4 rfl (lv_at hl 1 rfl) ?_
  have J_4 : ∀ (v_3 : Int32) (ls : Array Slot), lv_has ls 3 [(0, .ref g), (1, .int x), (2, .int y)] → v_3 = (if fx = x then (if fy = y then 1 else 0) else 0) → W p l e R s m args below meth c s.heap [] (0) (0) Q (F0 m 21 ls [.int v_3]) := by
    intro v_3 ls hl ev_3
    have hv : v_3 = bI (sgBegins fx fy x y) := by
      subst ev_3
      unfold sgBegins
      simp only [bI_if, bI_t, bI_f]
      all_goals rfl
    rw [hQ]
    exact h_zret hx hb hr hlk hsz hw (by simp) (by simp) dX7_beginsAt_21 (bI_v hv) ⟨congrArg (fun z => some (Value.int z)) hv, rfl⟩
  refine lv_icmp_ne (tgt := 20) hx hb dX7_beginsAt_5 (by decide) (fun c_1 => ?_) (fun c_1 => ?_)
  · skip
    refine lv_iconst (v := 0) hx hb dX7_beginsAt_20 (by decide) ?_
    exact J_4 0 ls (lv_sub hl [0, 1, 2] rfl) (by rw [if_neg c_1])
  · skip
    refine lv_aload_n hx hb dX7_beginsAt_8 rfl (lv_at hl 0 rfl) ?_
    refine h_get (ci := 7) (v := .int fy) (C := RX7) (T := TX7) (N := 8) hx hb hts kl_X7 hown hK hw he rfl 3 (by decide) (hts _ kf_X7_20) rfl rfl dX7_beginsAt_9 ?_
    refine lv_iload_n hx hb dX7_beginsAt_12 rfl (lv_at hl 2 rfl) ?_
    refine lv_icmp_ne (tgt := 20) hx hb dX7_beginsAt_13 (by decide) (fun c_2 => ?_) (fun c_2 => ?_)
    · skip
      refine lv_iconst (v := 0) hx hb dX7_beginsAt_20 (by decide) ?_
      exact J_4 0 ls (lv_sub hl [0, 1, 2] rfl) (by rw [if_pos c_1, if_neg c_2])
    · skip
      refine lv_iconst (v := 1) hx hb dX7_beginsAt_16 (by decide) ?_
      refine lv_goto (tgt := 21) hx hb dX7_beginsAt_17 (by decide) ?_
      exact J_4 1 ls (lv_sub hl [0, 1, 2] rfl) (by rw [if_pos c_1, if_pos c_2])

def sgNeigh (g nx g2 nx2 : Nat) : Bool := (if some nx = some g2 then true else (if some nx2 = some g then true else false))
set_option maxHeartbeats 4000000 in
set_option maxRecDepth 100000 in
theorem c_X7_isNeighbourOf (l : Launch) (D : va_G) (dT : Nat → ClassId) (ah : hA) (sz : Nat) (g rg bx nx : Nat) (no fx fy tx ty : Int32) (he : ah g = some (.inr (7, [.ref rg, .int no, .int fx, .int fy, .int tx, .int ty, .ref bx, .ref nx]))) (g2 rg2 bx2 nx2 : Nat) (no2 fx2 fy2 tx2 ty2 : Int32) (he2 : ah g2 = some (.inr (7, [.ref rg2, .int no2, .int fx2, .int fy2, .int tx2, .int ty2, .ref bx2, .ref nx2]))) : hMet l yX7_isNeighbourOf cX7_isNeighbourOf 2 (some .boolean) ({ frames := 0, cells := 0, slots := 0, locals := 0 }) D dT [.ref g, .ref g2] ah sz (fun r ah2 => r = some (.int (bI (sgNeigh g nx g2 nx2))) ∧ ah = ah2) 0 0 := by
  refine h_met (by decide) (Nat.le_of_ble_eq_true rfl) ?_
  intro p e s m below meth c ls R Q args hav hR hQ hB hl hsz hw
  obtain ⟨hx, hb, hml, hr, hts, hown, hlk, hin, hK⟩ := hB
  have hown : s.vm.findClass RX7 = some m.cls := hown
  have hl : lv_has ls 2 [(0, .ref g), (1, .ref g2)] := hl
  refine lv_aload_n hx hb dX7_isNeighbourOf_0 rfl (lv_at hl 0 rfl) ?_
  refine h_get (ci := 7) (v := .ref nx) (C := RX7) (T := TX7) (N := 8) hx hb hts kl_X7 hown hK hw he rfl 7 (by decide) (hts _ kf_X7_40) rfl rfl dX7_isNeighbourOf_1 ?_
  refine lv_aload_n hx hb dX7_isNeighbourOf_4 rfl (lv_at hl 1 rfl) ?_
  have J_4 : ∀ (v_3 : Int32) (ls : Array Slot), lv_has ls 2 [(0, .ref g), (1, .ref g2)] → v_3 = (if some nx = some g2 then 1 else (if some nx2 = some g then 1 else 0)) → W p l e R s m args below meth c s.heap [] (0) (0) Q (F0 m 21 ls [.int v_3]) := by
    intro v_3 ls hl ev_3
    have hv : v_3 = bI (sgNeigh g nx g2 nx2) := by
      subst ev_3
      unfold sgNeigh
      simp only [bI_if, bI_t, bI_f]
      all_goals rfl
    rw [hQ]
    exact h_zret hx hb hr hlk hsz hw (by simp) (by simp) dX7_isNeighbourOf_21 (bI_v hv) ⟨congrArg (fun z => some (Value.int z)) hv, rfl⟩
  refine lv_acmp_eq (rx := some nx) (ry := some g2) (tgt := 16) hx hb dX7_isNeighbourOf_5 (by decide) (fun c_1 => ?_) (fun c_1 => ?_)
  · skip
    refine lv_iconst (v := 1) hx hb dX7_isNeighbourOf_16 (by decide) ?_
    refine lv_goto (tgt := 21) hx hb dX7_isNeighbourOf_17 (by decide) ?_
    exact J_4 1 ls (lv_sub hl [0, 1] rfl) (by rw [if_pos c_1])
  · skip
    refine lv_aload_n hx hb dX7_isNeighbourOf_8 rfl (lv_at hl 1 rfl) ?_
    refine h_get (ci := 7) (v := .ref nx2) (C := RX7) (T := TX7) (N := 8) hx hb hts kl_X7 hown hK hw he2 rfl 7 (by decide) (hts _ kf_X7_40) rfl rfl dX7_isNeighbourOf_9 ?_
    refine lv_aload_n hx hb dX7_isNeighbourOf_12 rfl (lv_at hl 0 rfl) ?_
    refine lv_acmp_ne (rx := some nx2) (ry := some g) (tgt := 20) hx hb dX7_isNeighbourOf_13 (by decide) (fun c_2 => ?_) (fun c_2 => ?_)
    · skip
      refine lv_iconst (v := 0) hx hb dX7_isNeighbourOf_20 (by decide) ?_
      exact J_4 0 ls (lv_sub hl [0, 1] rfl) (by rw [if_neg c_1, if_neg c_2])
    · skip
      refine lv_iconst (v := 1) hx hb dX7_isNeighbourOf_16 (by decide) ?_
      refine lv_goto (tgt := 21) hx hb dX7_isNeighbourOf_17 (by decide) ?_
      exact J_4 1 ls (lv_sub hl [0, 1] rfl) (by rw [if_neg c_1, if_pos c_2])

def sgPasses (fx fy tx ty bx0b by0b bx1b by1b x y : Int32) : Bool := (if bxHas bx0b by0b bx1b by1b x y = false then false else (if (sgSide fx fy tx ty x y) = 0 then true else false))
set_option maxHeartbeats 4000000 in
set_option maxRecDepth 100000 in
theorem c_X7_passes (l : Launch) (D : va_G) (dT : Nat → ClassId) (ah : hA) (sz : Nat) (g rg bx nx : Nat) (no fx fy tx ty : Int32) (he : ah g = some (.inr (7, [.ref rg, .int no, .int fx, .int fy, .int tx, .int ty, .ref bx, .ref nx]))) (bx0b by0b bx1b by1b : Int32) (hebb : ah bx = some (.inr (0, [.int bx0b, .int by0b, .int bx1b, .int by1b]))) (x y : Int32) : hMet l yX7_passes cX7_passes 3 (some .boolean) ({ frames := 1, cells := 0, slots := 0, locals := 40 }) D dT [.ref g, .int x, .int y] ah sz (fun r ah2 => r = some (.int (bI (sgPasses fx fy tx ty bx0b by0b bx1b by1b x y))) ∧ ah = ah2) 0 0 := by
  refine h_met (by decide) (Nat.le_of_ble_eq_true rfl) ?_
  intro p e s m below meth c ls R Q args hav hR hQ hB hl hsz hw
  obtain ⟨hx, hb, hml, hr, hts, hown, hlk, hin, hK⟩ := hB
  have hown : s.vm.findClass RX7 = some m.cls := hown
  have hl : lv_has ls 3 [(0, .ref g), (1, .int x), (2, .int y)] := hl
  refine lv_aload_n hx hb dX7_passes_0 rfl (lv_at hl 0 rfl) ?_
  refine h_get (ci := 7) (v := .ref bx) (C := RX7) (T := TX7) (N := 8) hx hb hts kl_X7 hown hK hw he rfl 6 (by decide) (hts _ kf_X7_32) rfl rfl dX7_passes_1 ?_
  refine lv_iload_n hx hb dX7_passes_4 rfl (lv_at hl 1 rfl) ?_
  refine lv_iload_n hx hb dX7_passes_5 rfl (lv_at hl 2 rfl) ?_
  refine h_callV (n := 2) (ci := 0) (b := bx) (As := [.int x, .int y]) (rest := []) ⟨hx, hb, hml, hown, hts⟩ hK hw (c_X0_has l D dT ah s.heap.size bx bx0b by0b bx1b by1b hebb x y) ko_X0_has km_X7_44 ki_X0_has ks_X0_has kn_X0 (by decide +kernel) rfl hebb rfl hl.1 rfl (by simp [Value.category]) dX7_passes_6 (by rw [hR]; exact ⟨rfl, rfl, by decide, by decide, by simp, by simp⟩) (fun r_1 ah_2 H_3 L_4 st_5 hp hw hst => ?_)
  obtain ⟨rfl, rfl⟩ := hp
  have hst : st_5 = [.int (bI (bxHas bx0b by0b bx1b by1b x y))] := hst
  subst hst
  refine lv_if_eq (tgt := 27) hx hb dX7_passes_9 (by decide) (fun c_6 => ?_) (fun c_6 => ?_)
  · skip
    have c_6 : bxHas bx0b by0b bx1b by1b x y = false := bI_0.mp c_6
    refine lv_iconst (v := 0) hx hb dX7_passes_27 (by decide) ?_
    have hv : 0 = bI (sgPasses fx fy tx ty bx0b by0b bx1b by1b x y) := by
      unfold sgPasses
      simp only [bI_if, bI_t, bI_f]
      all_goals rw [if_pos c_6]
    rw [hQ]
    exact h_zret hx hb hr hlk hsz hw (by simp) (by simp) dX7_passes_28 (bI_v hv) ⟨congrArg (fun z => some (Value.int z)) hv, rfl⟩
  · skip
    have c_6 : ¬ (bxHas bx0b by0b bx1b by1b x y = false) := (not_congr bI_0).mp c_6
    refine lv_aload_n hx hb dX7_passes_12 rfl (lv_at hl 0 rfl) ?_
    refine lv_iload_n hx hb dX7_passes_13 rfl (lv_at hl 1 rfl) ?_
    refine lv_iload_n hx hb dX7_passes_14 rfl (lv_at hl 2 rfl) ?_
    refine h_callV (n := 2) (ci := 7) (b := g) (As := [.int x, .int y]) (rest := []) ⟨hx, hb, hml, hown, hts⟩ hK hw (c_X7_side l D dT ah H_3.size g rg bx nx no fx fy tx ty he x y) ko_X7_side km_X7_48 ki_X7_side ks_X7_side kn_X7 (by decide +kernel) rfl he rfl hl.1 rfl (by simp [Value.category]) dX7_passes_15 (by rw [hR]; exact ⟨rfl, rfl, by decide, by decide, by simp, by simp⟩) (fun r_7 ah_8 H_9 L_10 st_11 hp hw hst => ?_)
    obtain ⟨rfl, rfl⟩ := hp
    have hst : st_11 = [.long (sgSide fx fy tx ty x y)] := hst
    subst hst
    refine lv_lconst (v := 0) hx hb dX7_passes_18 (by decide) ?_
    refine W.lcmp hx hb dX7_passes_19 ?_
    have J_14 : ∀ (v_13 : Int32) (ls : Array Slot), lv_has ls 3 [(0, .ref g), (1, .int x), (2, .int y)] → v_13 = (if (sgSide fx fy tx ty x y) = 0 then 1 else 0) → W p l e R s m args below meth c H_9 L_10 (0 + 0 + 0) (0 + 0 + 0) Q (F0 m 28 ls [.int v_13]) := by
      intro v_13 ls hl ev_13
      have hv : v_13 = bI (sgPasses fx fy tx ty bx0b by0b bx1b by1b x y) := by
        subst ev_13
        unfold sgPasses
        simp only [bI_if, bI_t, bI_f]
        all_goals rw [if_neg c_6]
      rw [hQ]
      exact h_zret hx hb hr hlk hsz hw (by simp) (by simp) dX7_passes_28 (bI_v hv) ⟨congrArg (fun z => some (Value.int z)) hv, rfl⟩
    refine lv_if_ne (tgt := 27) hx hb dX7_passes_20 (by decide) (fun c_12 => ?_) (fun c_12 => ?_)
    · skip
      have c_12 : ¬ ((sgSide fx fy tx ty x y) = 0) := (not_congr lgc_eq).mp c_12
      refine lv_iconst (v := 0) hx hb dX7_passes_27 (by decide) ?_
      exact J_14 0 ls (lv_sub hl [0, 1, 2] rfl) (by rw [if_neg c_12])
    · skip
      have c_12 : (sgSide fx fy tx ty x y) = 0 := lgc_eq.mp c_12
      refine lv_iconst (v := 1) hx hb dX7_passes_23 (by decide) ?_
      refine lv_goto (tgt := 28) hx hb dX7_passes_24 (by decide) ?_
      exact J_14 1 ls (lv_sub hl [0, 1, 2] rfl) (by rw [if_pos c_12])

def sgHit (fx fy tx ty x y : Int32) (dx dy : Int64) : Bool := (if ((if y < fy then 1 else (if fy = y then (if 0 ≤ dy then 0 else 1) else 0)) : Int32) = ((if y < ty then 1 else (if ty = y then (if 0 ≤ dy then 0 else 1) else 0)) : Int32) then false else (if ((if y < ty then 1 else (if ty = y then (if 0 ≤ dy then 0 else 1) else 0)) : Int32) = 0 then (if 0 ≤ ((if (sgSide fx fy tx ty x y) = 0 then ((((tx).toInt64 - (fx).toInt64) * dy) - (((ty).toInt64 - (fy).toInt64) * dx)) else (sgSide fx fy tx ty x y)) : Int64) then false else true) else (if ((if (sgSide fx fy tx ty x y) = 0 then ((((tx).toInt64 - (fx).toInt64) * dy) - (((ty).toInt64 - (fy).toInt64) * dx)) else (sgSide fx fy tx ty x y)) : Int64) ≤ 0 then false else true)))
set_option maxHeartbeats 4000000 in
set_option maxRecDepth 100000 in
theorem c_X7_isHitFrom (l : Launch) (D : va_G) (dT : Nat → ClassId) (ah : hA) (sz : Nat) (g rg bx nx : Nat) (no fx fy tx ty : Int32) (he : ah g = some (.inr (7, [.ref rg, .int no, .int fx, .int fy, .int tx, .int ty, .ref bx, .ref nx]))) (x y : Int32) (dx dy : Int64) : hMet l yX7_isHitFrom cX7_isHitFrom 11 (some .boolean) ({ frames := 1, cells := 0, slots := 0, locals := 40 }) D dT [.ref g, .int x, .int y, .long dx, .long dy] ah sz (fun r ah2 => r = some (.int (bI (sgHit fx fy tx ty x y dx dy))) ∧ ah = ah2) 0 0 := by
  refine h_met (by decide) (Nat.le_of_ble_eq_true rfl) ?_
  intro p e s m below meth c ls R Q args hav hR hQ hB hl hsz hw
  obtain ⟨hx, hb, hml, hr, hts, hown, hlk, hin, hK⟩ := hB
  have hown : s.vm.findClass RX7 = some m.cls := hown
  have hl : lv_has ls 11 [(0, .ref g), (1, .int x), (2, .int y), (3, .long dx), (5, .long dy)] := hl
  refine lv_aload_n hx hb dX7_isHitFrom_0 rfl (lv_at hl 0 rfl) ?_
  refine h_get (ci := 7) (v := .int fy) (C := RX7) (T := TX7) (N := 8) hx hb hts kl_X7 hown hK hw he rfl 3 (by decide) (hts _ kf_X7_20) rfl rfl dX7_isHitFrom_1 ?_
  refine lv_iload_n hx hb dX7_isHitFrom_4 rfl (lv_at hl 2 rfl) ?_
  have J_5 : ∀ (v_4 : Int32) (ls : Array Slot), lv_has ls 11 [(0, .ref g), (1, .int x), (2, .int y), (3, .long dx), (5, .long dy)] → v_4 = (if y < fy then 1 else (if fy = y then (if 0 ≤ dy then 0 else 1) else 0)) → W p l e R s m args below meth c s.heap [] (0) (0) Q (F0 m 28 ls [.int v_4]) := by
    intro v_4 ls hl ev_4
    refine lv_istore (lv' := [(7, .int v_4), (0, .ref g), (1, .int x), (2, .int y), (3, .long dx), (5, .long dy)]) hx hb dX7_isHitFrom_28 hl (by decide) rfl (fun ls hl => ?_)
    refine lv_aload_n hx hb dX7_isHitFrom_30 rfl (lv_at hl 1 rfl) ?_
    refine h_get (ci := 7) (v := .int ty) (C := RX7) (T := TX7) (N := 8) hx hb hts kl_X7 hown hK hw he rfl 5 (by decide) (hts _ kf_X7_26) rfl rfl dX7_isHitFrom_31 ?_
    refine lv_iload_n hx hb dX7_isHitFrom_34 rfl (lv_at hl 3 rfl) ?_
    have J_10 : ∀ (v_9 : Int32) (ls : Array Slot), lv_has ls 11 [(7, .int v_4), (0, .ref g), (1, .int x), (2, .int y), (3, .long dx), (5, .long dy)] → v_9 = (if y < ty then 1 else (if ty = y then (if 0 ≤ dy then 0 else 1) else 0)) → W p l e R s m args below meth c s.heap [] (0) (0) Q (F0 m 58 ls [.int v_9]) := by
      intro v_9 ls hl ev_9
      refine lv_istore (lv' := [(8, .int v_9), (7, .int v_4), (0, .ref g), (1, .int x), (2, .int y), (3, .long dx), (5, .long dy)]) hx hb dX7_isHitFrom_58 hl (by decide) rfl (fun ls hl => ?_)
      refine lv_iload hx hb dX7_isHitFrom_60 (lv_at hl 1 rfl) ?_
      refine lv_iload hx hb dX7_isHitFrom_62 (lv_at hl 0 rfl) ?_
      refine lv_icmp_ne (tgt := 69) hx hb dX7_isHitFrom_64 (by decide) (fun c_11 => ?_) (fun c_11 => ?_)
      · skip
        refine lv_aload_n hx hb dX7_isHitFrom_69 rfl (lv_at hl 2 rfl) ?_
        refine lv_iload_n hx hb dX7_isHitFrom_70 rfl (lv_at hl 3 rfl) ?_
        refine lv_iload_n hx hb dX7_isHitFrom_71 rfl (lv_at hl 4 rfl) ?_
        refine h_callV (n := 2) (ci := 7) (b := g) (As := [.int x, .int y]) (rest := []) ⟨hx, hb, hml, hown, hts⟩ hK hw (c_X7_side l D dT ah s.heap.size g rg bx nx no fx fy tx ty he x y) ko_X7_side km_X7_48 ki_X7_side ks_X7_side kn_X7 (by decide +kernel) rfl he rfl hl.1 rfl (by simp [Value.category]) dX7_isHitFrom_72 (by rw [hR]; exact ⟨rfl, rfl, by decide, by decide, by simp, by simp⟩) (fun r_12 ah_13 H_14 L_15 st_16 hp hw hst => ?_)
        obtain ⟨rfl, rfl⟩ := hp
        have hst : st_16 = [.long (sgSide fx fy tx ty x y)] := hst
        subst hst
        refine lv_lstore (lv' := [(9, .long (sgSide fx fy tx ty x y)), (8, .int v_9), (7, .int v_4), (0, .ref g), (1, .int x), (2, .int y), (3, .long dx), (5, .long dy)]) hx hb dX7_isHitFrom_75 hl (by decide) rfl (fun ls hl => ?_)
        refine lv_lload hx hb dX7_isHitFrom_77 (lv_at hl 0 rfl) ?_
        refine lv_lconst (v := 0) hx hb dX7_isHitFrom_79 (by decide) ?_
        refine W.lcmp hx hb dX7_isHitFrom_80 ?_
        have J_19 : ∀ (v_18 : Int64) (ls : Array Slot), lv_has ls 11 [(9, .long v_18), (8, .int v_9), (7, .int v_4), (0, .ref g), (1, .int x), (2, .int y), (3, .long dx), (5, .long dy)] → v_18 = (if (sgSide fx fy tx ty x y) = 0 then ((((tx).toInt64 - (fx).toInt64) * dy) - (((ty).toInt64 - (fy).toInt64) * dx)) else (sgSide fx fy tx ty x y)) → W p l e R s m args below meth c H_14 L_15 (0 + 0) (0 + 0) Q (F0 m 114 ls []) := by
          intro v_18 ls hl ev_18
          refine lv_iload hx hb dX7_isHitFrom_114 (lv_at hl 1 rfl) ?_
          have J_24 : ∀ (v_23 : Int32) (ls : Array Slot), lv_has ls 11 [(9, .long v_18), (8, .int v_9), (7, .int v_4), (0, .ref g), (1, .int x), (2, .int y), (3, .long dx), (5, .long dy)] → v_23 = (if v_9 = 0 then (if 0 ≤ v_18 then 0 else 1) else (if v_18 ≤ 0 then 0 else 1)) → W p l e R s m args below meth c H_14 L_15 (0 + 0) (0 + 0) Q (F0 m 146 ls [.int v_23]) := by
            intro v_23 ls hl ev_23
            have hv : v_23 = bI (sgHit fx fy tx ty x y dx dy) := by
              subst ev_23
              subst ev_18
              subst ev_9
              subst ev_4
              unfold sgHit
              simp only [bI_if, bI_t, bI_f]
              all_goals rw [if_neg c_11]
            rw [hQ]
            exact h_zret hx hb hr hlk hsz hw (by simp) (by simp) dX7_isHitFrom_146 (bI_v hv) ⟨congrArg (fun z => some (Value.int z)) hv, rfl⟩
          refine lv_if_eq (tgt := 134) hx hb dX7_isHitFrom_116 (by decide) (fun c_20 => ?_) (fun c_20 => ?_)
          · skip
            refine lv_lload hx hb dX7_isHitFrom_134 (lv_at hl 0 rfl) ?_
            refine lv_lconst (v := 0) hx hb dX7_isHitFrom_136 (by decide) ?_
            refine W.lcmp hx hb dX7_isHitFrom_137 ?_
            refine lv_if_ge (tgt := 145) hx hb dX7_isHitFrom_138 (by decide) (fun c_21 => ?_) (fun c_21 => ?_)
            · skip
              have c_21 : 0 ≤ v_18 := lgc_ge.mp c_21
              refine lv_iconst (v := 0) hx hb dX7_isHitFrom_145 (by decide) ?_
              exact J_24 0 ls (lv_sub hl [0, 1, 2, 3, 4, 5, 6, 7] rfl) (by rw [if_pos c_20, if_pos c_21])
            · skip
              have c_21 : ¬ (0 ≤ v_18) := (not_congr lgc_ge).mp c_21
              refine lv_iconst (v := 1) hx hb dX7_isHitFrom_141 (by decide) ?_
              refine lv_goto (tgt := 146) hx hb dX7_isHitFrom_142 (by decide) ?_
              exact J_24 1 ls (lv_sub hl [0, 1, 2, 3, 4, 5, 6, 7] rfl) (by rw [if_pos c_20, if_neg c_21])
          · skip
            refine lv_lload hx hb dX7_isHitFrom_119 (lv_at hl 0 rfl) ?_
            refine lv_lconst (v := 0) hx hb dX7_isHitFrom_121 (by decide) ?_
            refine W.lcmp hx hb dX7_isHitFrom_122 ?_
            refine lv_if_le (tgt := 130) hx hb dX7_isHitFrom_123 (by decide) (fun c_22 => ?_) (fun c_22 => ?_)
            · skip
              have c_22 : v_18 ≤ 0 := lgc_le.mp c_22
              refine lv_iconst (v := 0) hx hb dX7_isHitFrom_130 (by decide) ?_
              refine lv_goto (tgt := 146) hx hb dX7_isHitFrom_131 (by decide) ?_
              exact J_24 0 ls (lv_sub hl [0, 1, 2, 3, 4, 5, 6, 7] rfl) (by rw [if_neg c_20, if_pos c_22])
            · skip
              have c_22 : ¬ (v_18 ≤ 0) := (not_congr lgc_le).mp c_22
              refine lv_iconst (v := 1) hx hb dX7_isHitFrom_126 (by decide) ?_
              refine lv_goto (tgt := 146) hx hb dX7_isHitFrom_127 (by decide) ?_
              exact J_24 1 ls (lv_sub hl [0, 1, 2, 3, 4, 5, 6, 7] rfl) (by rw [if_neg c_20, if_neg c_22])
        refine lv_if_ne (tgt := 114) hx hb dX7_isHitFrom_81 (by decide) (fun c_17 => ?_) (fun c_17 => ?_)
        · skip
          have c_17 : ¬ ((sgSide fx fy tx ty x y) = 0) := (not_congr lgc_eq).mp c_17
          exact J_19 (sgSide fx fy tx ty x y) ls (lv_sub hl [0, 1, 2, 3, 4, 5, 6, 7] rfl) (by rw [if_neg c_17])
        · skip
          have c_17 : (sgSide fx fy tx ty x y) = 0 := lgc_eq.mp c_17
          refine lv_aload_n hx hb dX7_isHitFrom_84 rfl (lv_at hl 3 rfl) ?_
          refine h_get (ci := 7) (v := .int tx) (C := RX7) (T := TX7) (N := 8) hx hb hts kl_X7 hown hK hw he rfl 4 (by decide) (hts _ kf_X7_23) rfl rfl dX7_isHitFrom_85 ?_
          refine lv_i2l (v := (tx).toInt64) hx hb dX7_isHitFrom_88 rfl ?_
          refine lv_aload_n hx hb dX7_isHitFrom_89 rfl (lv_at hl 3 rfl) ?_
          refine h_get (ci := 7) (v := .int fx) (C := RX7) (T := TX7) (N := 8) hx hb hts kl_X7 hown hK hw he rfl 2 (by decide) (hts _ kf_X7_17) rfl rfl dX7_isHitFrom_90 ?_
          refine lv_i2l (v := (fx).toInt64) hx hb dX7_isHitFrom_93 rfl ?_
          refine lv_lsub hx hb dX7_isHitFrom_94 ?_
          refine lv_lload hx hb dX7_isHitFrom_95 (lv_at hl 7 rfl) ?_
          refine lv_lmul hx hb dX7_isHitFrom_97 ?_
          refine lv_aload_n hx hb dX7_isHitFrom_98 rfl (lv_at hl 3 rfl) ?_
          refine h_get (ci := 7) (v := .int ty) (C := RX7) (T := TX7) (N := 8) hx hb hts kl_X7 hown hK hw he rfl 5 (by decide) (hts _ kf_X7_26) rfl rfl dX7_isHitFrom_99 ?_
          refine lv_i2l (v := (ty).toInt64) hx hb dX7_isHitFrom_102 rfl ?_
          refine lv_aload_n hx hb dX7_isHitFrom_103 rfl (lv_at hl 3 rfl) ?_
          refine h_get (ci := 7) (v := .int fy) (C := RX7) (T := TX7) (N := 8) hx hb hts kl_X7 hown hK hw he rfl 3 (by decide) (hts _ kf_X7_20) rfl rfl dX7_isHitFrom_104 ?_
          refine lv_i2l (v := (fy).toInt64) hx hb dX7_isHitFrom_107 rfl ?_
          refine lv_lsub hx hb dX7_isHitFrom_108 ?_
          refine lv_lload_n hx hb dX7_isHitFrom_109 rfl (lv_at hl 6 rfl) ?_
          refine lv_lmul hx hb dX7_isHitFrom_110 ?_
          refine lv_lsub hx hb dX7_isHitFrom_111 ?_
          refine lv_lstore (lv' := [(9, .long ((((tx).toInt64 - (fx).toInt64) * dy) - (((ty).toInt64 - (fy).toInt64) * dx))), (8, .int v_9), (7, .int v_4), (0, .ref g), (1, .int x), (2, .int y), (3, .long dx), (5, .long dy)]) hx hb dX7_isHitFrom_112 hl (by decide) rfl (fun ls hl => ?_)
          exact J_19 ((((tx).toInt64 - (fx).toInt64) * dy) - (((ty).toInt64 - (fy).toInt64) * dx)) ls (lv_sub hl [0, 1, 2, 3, 4, 5, 6, 7] rfl) (by rw [if_pos c_17])
      · skip
        refine lv_iconst (v := 0) hx hb dX7_isHitFrom_67 (by decide) ?_
        have hv : 0 = bI (sgHit fx fy tx ty x y dx dy) := by
          subst ev_9
          subst ev_4
          unfold sgHit
          simp only [bI_if, bI_t, bI_f]
          all_goals rw [if_pos c_11]
        rw [hQ]
        exact h_zret hx hb hr hlk hsz hw (by simp) (by simp) dX7_isHitFrom_68 (bI_v hv) ⟨congrArg (fun z => some (Value.int z)) hv, rfl⟩
    refine lv_icmp_gt (tgt := 53) hx hb dX7_isHitFrom_35 (by decide) (fun c_6 => ?_) (fun c_6 => ?_)
    · skip
      refine lv_iconst (v := 1) hx hb dX7_isHitFrom_53 (by decide) ?_
      refine lv_goto (tgt := 58) hx hb dX7_isHitFrom_54 (by decide) ?_
      exact J_10 1 ls (lv_sub hl [0, 1, 2, 3, 4, 5] rfl) (by rw [if_pos c_6])
    · skip
      refine lv_aload_n hx hb dX7_isHitFrom_38 rfl (lv_at hl 1 rfl) ?_
      refine h_get (ci := 7) (v := .int ty) (C := RX7) (T := TX7) (N := 8) hx hb hts kl_X7 hown hK hw he rfl 5 (by decide) (hts _ kf_X7_26) rfl rfl dX7_isHitFrom_39 ?_
      refine lv_iload_n hx hb dX7_isHitFrom_42 rfl (lv_at hl 3 rfl) ?_
      refine lv_icmp_ne (tgt := 57) hx hb dX7_isHitFrom_43 (by decide) (fun c_7 => ?_) (fun c_7 => ?_)
      · skip
        refine lv_iconst (v := 0) hx hb dX7_isHitFrom_57 (by decide) ?_
        exact J_10 0 ls (lv_sub hl [0, 1, 2, 3, 4, 5] rfl) (by rw [if_neg c_6, if_neg c_7])
      · skip
        refine lv_lload hx hb dX7_isHitFrom_46 (lv_at hl 5 rfl) ?_
        refine lv_lconst (v := 0) hx hb dX7_isHitFrom_48 (by decide) ?_
        refine W.lcmp hx hb dX7_isHitFrom_49 ?_
        refine lv_if_ge (tgt := 57) hx hb dX7_isHitFrom_50 (by decide) (fun c_8 => ?_) (fun c_8 => ?_)
        · skip
          have c_8 : 0 ≤ dy := lgc_ge.mp c_8
          refine lv_iconst (v := 0) hx hb dX7_isHitFrom_57 (by decide) ?_
          exact J_10 0 ls (lv_sub hl [0, 1, 2, 3, 4, 5] rfl) (by rw [if_neg c_6, if_pos c_7, if_pos c_8])
        · skip
          have c_8 : ¬ (0 ≤ dy) := (not_congr lgc_ge).mp c_8
          refine lv_iconst (v := 1) hx hb dX7_isHitFrom_53 (by decide) ?_
          refine lv_goto (tgt := 58) hx hb dX7_isHitFrom_54 (by decide) ?_
          exact J_10 1 ls (lv_sub hl [0, 1, 2, 3, 4, 5] rfl) (by rw [if_neg c_6, if_pos c_7, if_neg c_8])
  refine lv_icmp_gt (tgt := 23) hx hb dX7_isHitFrom_5 (by decide) (fun c_1 => ?_) (fun c_1 => ?_)
  · skip
    refine lv_iconst (v := 1) hx hb dX7_isHitFrom_23 (by decide) ?_
    refine lv_goto (tgt := 28) hx hb dX7_isHitFrom_24 (by decide) ?_
    exact J_5 1 ls (lv_sub hl [0, 1, 2, 3, 4] rfl) (by rw [if_pos c_1])
  · skip
    refine lv_aload_n hx hb dX7_isHitFrom_8 rfl (lv_at hl 0 rfl) ?_
    refine h_get (ci := 7) (v := .int fy) (C := RX7) (T := TX7) (N := 8) hx hb hts kl_X7 hown hK hw he rfl 3 (by decide) (hts _ kf_X7_20) rfl rfl dX7_isHitFrom_9 ?_
    refine lv_iload_n hx hb dX7_isHitFrom_12 rfl (lv_at hl 2 rfl) ?_
    refine lv_icmp_ne (tgt := 27) hx hb dX7_isHitFrom_13 (by decide) (fun c_2 => ?_) (fun c_2 => ?_)
    · skip
      refine lv_iconst (v := 0) hx hb dX7_isHitFrom_27 (by decide) ?_
      exact J_5 0 ls (lv_sub hl [0, 1, 2, 3, 4] rfl) (by rw [if_neg c_1, if_neg c_2])
    · skip
      refine lv_lload hx hb dX7_isHitFrom_16 (lv_at hl 4 rfl) ?_
      refine lv_lconst (v := 0) hx hb dX7_isHitFrom_18 (by decide) ?_
      refine W.lcmp hx hb dX7_isHitFrom_19 ?_
      refine lv_if_ge (tgt := 27) hx hb dX7_isHitFrom_20 (by decide) (fun c_3 => ?_) (fun c_3 => ?_)
      · skip
        have c_3 : 0 ≤ dy := lgc_ge.mp c_3
        refine lv_iconst (v := 0) hx hb dX7_isHitFrom_27 (by decide) ?_
        exact J_5 0 ls (lv_sub hl [0, 1, 2, 3, 4] rfl) (by rw [if_neg c_1, if_pos c_2, if_pos c_3])
      · skip
        have c_3 : ¬ (0 ≤ dy) := (not_congr lgc_ge).mp c_3
        refine lv_iconst (v := 1) hx hb dX7_isHitFrom_23 (by decide) ?_
        refine lv_goto (tgt := 28) hx hb dX7_isHitFrom_24 (by decide) ?_
        exact J_5 1 ls (lv_sub hl [0, 1, 2, 3, 4] rfl) (by rw [if_neg c_1, if_pos c_2, if_neg c_3])

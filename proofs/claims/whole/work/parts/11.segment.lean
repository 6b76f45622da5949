/-! ShapeJudge$Segment -/
def sgSide (fx fy tx ty x y : Int32) : Int64 := ((((tx).toInt64 - (fx).toInt64) * ((y).toInt64 - (fy).toInt64)) - (((ty).toInt64 - (fy).toInt64) * ((x).toInt64 - (fx).toInt64)))
set_option maxHeartbeats 4000000 in
set_option maxRecDepth 100000 in
theorem c_X7_side (l : Launch) (D : va_G) (dT : Nat → ClassId) (ah : hA) (sz : Nat) (g rg bx : Nat) (nx : Option Nat) (no fx fy tx ty : Int32) (he : ah g = some (.inr (7, [.ref rg, .int no, .int fx, .int fy, .int tx, .int ty, .ref bx, va_rf nx]))) (x y : Int32) : hMet l yX7_side cX7_side 3 (some .long) ({ frames := 0, cells := 0, slots := 0, locals := 0 }) D dT [.ref g, .int x, .int y] ah sz (fun r ah2 => r = some (.long (sgSide fx fy tx ty x y)) ∧ ah = ah2) 0 0 := by
  refine h_met (by decide) (Nat.le_of_ble_eq_true rfl) ?_
  intro p e s m below meth c ls R Q args hav hR hQ hB hl hsz hw
  obtain ⟨hx, hb, hml, hr, hts, hown, hlk, hin, hK⟩ := hB
  have hown : s.vm.findClass RX7 = some m.cls := hown
  have hl : lv_has ls 3 [(0, .ref g), (1, .int x), (2, .int y)] := hl
  refine lv_aload_n hx hb dX7_side_0 rfl (lv_at hl 0 rfl) ?_
  refine h_get (ci := 7) (v := .int tx) (C := RX7) (T := TX7) (N := 8) hx hb hts kl_X7 hown hK hw he rfl 4 (by decide) (hts _ kf_X7_23) rfl rfl dX7_side_1 ?_
  refine lv_i2l (v := (tx).toInt64) hx hb dX7_side_4 rfl ?_
  refine lv_aload_n hx hb dX7_side_5 rfl (lv_at hl 0 rfl) ?_
  refine h_get (ci := 7) (v := .int fx) (C := RX7) (T := TX7) (N := 8) hx hb hts kl_X7 hown hK hw he rfl 2 (by decide) (hts _ kf_X7_17) rfl rfl dX7_side_6 ?_
  refine lv_i2l (v := (fx).toInt64) hx hb dX7_side_9 rfl ?_
  refine lv_lsub hx hb dX7_side_10 ?_
  refine lv_iload_n hx hb dX7_side_11 rfl (lv_at hl 2 rfl) ?_
  refine lv_i2l (v := (y).toInt64) hx hb dX7_side_12 rfl ?_
  refine lv_aload_n hx hb dX7_side_13 rfl (lv_at hl 0 rfl) ?_
  refine h_get (ci := 7) (v := .int fy) (C := RX7) (T := TX7) (N := 8) hx hb hts kl_X7 hown hK hw he rfl 3 (by decide) (hts _ kf_X7_20) rfl rfl dX7_side_14 ?_
  refine lv_i2l (v := (fy).toInt64) hx hb dX7_side_17 rfl ?_
  refine lv_lsub hx hb dX7_side_18 ?_
  refine lv_lmul hx hb dX7_side_19 ?_
  refine lv_aload_n hx hb dX7_side_20 rfl (lv_at hl 0 rfl) ?_
  refine h_get (ci := 7) (v := .int ty) (C := RX7) (T := TX7) (N := 8) hx hb hts kl_X7 hown hK hw he rfl 5 (by decide) (hts _ kf_X7_26) rfl rfl dX7_side_21 ?_
  refine lv_i2l (v := (ty).toInt64) hx hb dX7_side_24 rfl ?_
  refine lv_aload_n hx hb dX7_side_25 rfl (lv_at hl 0 rfl) ?_
  refine h_get (ci := 7) (v := .int fy) (C := RX7) (T := TX7) (N := 8) hx hb hts kl_X7 hown hK hw he rfl 3 (by decide) (hts _ kf_X7_20) rfl rfl dX7_side_26 ?_
  refine lv_i2l (v := (fy).toInt64) hx hb dX7_side_29 rfl ?_
  refine lv_lsub hx hb dX7_side_30 ?_
  refine lv_iload_n hx hb dX7_side_31 rfl (lv_at hl 1 rfl) ?_
  refine lv_i2l (v := (x).toInt64) hx hb dX7_side_32 rfl ?_
  refine lv_aload_n hx hb dX7_side_33 rfl (lv_at hl 0 rfl) ?_
  refine h_get (ci := 7) (v := .int fx) (C := RX7) (T := TX7) (N := 8) hx hb hts kl_X7 hown hK hw he rfl 2 (by decide) (hts _ kf_X7_17) rfl rfl dX7_side_34 ?_
  refine lv_i2l (v := (fx).toInt64) hx hb dX7_side_37 rfl ?_
  refine lv_lsub hx hb dX7_side_38 ?_
  refine lv_lmul hx hb dX7_side_39 ?_
  refine lv_lsub hx hb dX7_side_40 ?_
  have hv : ((((tx).toInt64 - (fx).toInt64) * ((y).toInt64 - (fy).toInt64)) - (((ty).toInt64 - (fy).toInt64) * ((x).toInt64 - (fx).toInt64))) = sgSide fx fy tx ty x y := by
    unfold sgSide
    all_goals rfl
  rw [hQ]
  exact h_lret hx hb hr hlk hsz hw (by simp) (by simp) dX7_side_41 ⟨congrArg (fun z => some (Value.long z)) hv, rfl⟩

def sgBegins (fx fy x y : Int32) : Bool := (if fx = x then (if fy = y then true else false) else false)
set_option maxHeartbeats 4000000 in
set_option maxRecDepth 100000 in
theorem c_X7_beginsAt (l : Launch) (D : va_G) (dT : Nat → ClassId) (ah : hA) (sz : Nat) (g rg bx : Nat) (nx : Option Nat) (no fx fy tx ty : Int32) (he : ah g = some (.inr (7, [.ref rg, .int no, .int fx, .int fy, .int tx, .int ty, .ref bx, va_rf nx]))) (x y : Int32) : hMet l yX7_beginsAt cX7_beginsAt 3 (some .boolean) ({ frames := 0, cells := 0, slots := 0, locals := 0 }) D dT [.ref g, .int x, .int y] ah sz (fun r ah2 => r = some (.int (bI (sgBegins fx fy x y))) ∧ ah = ah2) 0 0 := by
  refine h_met (by decide) (Nat.le_of_ble_eq_true rfl) ?_
  intro p e s m below meth c ls R Q args hav hR hQ hB hl hsz hw
  obtain ⟨hx, hb, hml, hr, hts, hown, hlk, hin, hK⟩ := hB
  have hown : s.vm.findClass RX7 = some m.cls := hown
  have hl : lv_has ls 3 [(0, .ref g), (1, .int x), (2, .int y)] := hl
  refine lv_aload_n hx hb dX7_beginsAt_0 rfl (lv_at hl 0 rfl) ?_
  refine h_get (ci := 7) (v := .int fx) (C := RX7) (T := TX7) (N := 8) hx hb hts kl_X7 hown hK hw he rfl 2 (by decide) (hts _ kf_X7_17) rfl rfl dX7_beginsAt_1 ?_
  refine lv_iload_n hx hb dX7_beginsAt_4 rfl (lv_at hl 1 rfl) ?_
  have J_4 : ∀ (v_3 : Int32) (ls : Array Slot), lv_has ls 3 [(0, .ref g), (1, .int x), (2, .int y)] → v_3 = (if fx = x then (if fy = y then 1 else 0) else 0) → W p l e R s m args below meth c s.heap [] (0) (0) Q (F0 m 21 ls [.int v_3]) := by
    intro v_3 ls hl ev_3
    have hv : v_3 = bI (sgBegins fx fy x y) := by
      subst ev_3
      unfold sgBegins
      simp only [bI_if, bI_t, bI_f]
      all_goals rfl
    rw [hQ]
    exact h_zret hx hb hr hlk hsz hw (by simp) (by simp) dX7_beginsAt_21 (bI_v hv) ⟨congrArg (fun z => some (Value.int z)) hv, rfl⟩
  refine lv_icmp_ne (tgt := 20) hx hb dX7_beginsAt_5 (by decide) (fun c_1 => ?_) (fun c_1 => ?_)
  · skip
    refine lv_iconst (v := 0) hx hb dX7_beginsAt_20 (by decide) ?_
    exact J_4 0 ls (lv_sub hl [0, 1, 2] rfl) (by rw [if_neg c_1])
  · skip
    refine lv_aload_n hx hb dX7_beginsAt_8 rfl (lv_at hl 0 rfl) ?_
    refine h_get (ci := 7) (v := .int fy) (C := RX7) (T := TX7) (N := 8) hx hb hts kl_X7 hown hK hw he rfl 3 (by decide) (hts _ kf_X7_20) rfl rfl dX7_beginsAt_9 ?_
    refine lv_iload_n hx hb dX7_beginsAt_12 rfl (lv_at hl 2 rfl) ?_
    refine lv_icmp_ne (tgt := 20) hx hb dX7_beginsAt_13 (by decide) (fun c_2 => ?_) (fun c_2 => ?_)
    · skip
      refine lv_iconst (v := 0) hx hb dX7_beginsAt_20 (by decide) ?_
      exact J_4 0 ls (lv_sub hl [0, 1, 2] rfl) (by rw [if_pos c_1, if_neg c_2])
    · skip
      refine lv_iconst (v := 1) hx hb dX7_beginsAt_16 (by decide) ?_
      refine lv_goto (tgt := 21) hx hb dX7_beginsAt_17 (by decide) ?_
      exact J_4 1 ls (lv_sub hl [0, 1, 2] rfl) (by rw [if_pos c_1, if_pos c_2])

def sgNeigh (g nx g2 nx2 : Nat) : Bool := (if some nx = some g2 then true else (if some nx2 = some g then true else false))
set_option maxHeartbeats 4000000 in
set_option maxRecDepth 100000 in
theorem c_X7_isNeighbourOf (l : Launch) (D : va_G) (dT : Nat → ClassId) (ah : hA) (sz : Nat) (g rg bx nx : Nat) (no fx fy tx ty : Int32) (he : ah g = some (.inr (7, [.ref rg, .int no, .int fx, .int fy, .int tx, .int ty, .ref bx, .ref nx]))) (g2 rg2 bx2 nx2 : Nat) (no2 fx2 fy2 tx2 ty2 : Int32) (he2 : ah g2 = some (.inr (7, [.ref rg2, .int no2, .int fx2, .int fy2, .int tx2, .int ty2, .ref bx2, .ref nx2]))) : hMet l yX7_isNeighbourOf cX7_isNeighbourOf 2 (some .boolean) ({ frames := 0, cells := 0, slots := 0, locals := 0 }) D dT [.ref g, .ref g2] ah sz (fun r ah2 => r = some (.int (bI (sgNeigh g nx g2 nx2))) ∧ ah = ah2) 0 0 := by
  refine h_met (by decide) (Nat.le_of_ble_eq_true rfl) ?_
  intro p e s m below meth c ls R Q args hav hR hQ hB hl hsz hw
  obtain ⟨hx, hb, hml, hr, hts, hown, hlk, hin, hK⟩ := hB
  have hown : s.vm.findClass RX7 = some m.cls := hown
  have hl : lv_has ls 2 [(0, .ref g), (1, .ref g2)] := hl
  refine lv_aload_n hx hb dX7_isNeighbourOf_0 rfl (lv_at hl 0 rfl) ?_
  refine h_get (ci := 7) (v := .ref nx) (C := RX7) (T := TX7) (N := 8) hx hb hts kl_X7 hown hK hw he rfl 7 (by decide) (hts _ kf_X7_40) rfl rfl dX7_isNeighbourOf_1 ?_
  refine lv_aload_n hx hb dX7_isNeighbourOf_4 rfl (lv_at hl 1 rfl) ?_
  have J_4 : ∀ (v_3 : Int32) (ls : Array Slot), lv_has ls 2 [(0, .ref g), (1, .ref g2)] → v_3 = (if some nx = some g2 then 1 else (if some nx2 = some g then 1 else 0)) → W p l e R s m args below meth c s.heap [] (0) (0) Q (F0 m 21 ls [.int v_3]) := by
    intro v_3 ls hl ev_3
    have hv : v_3 = bI (sgNeigh g nx g2 nx2) := by
      subst ev_3
      unfold sgNeigh
      simp only [bI_if, bI_t, bI_f]
      all_goals rfl
    rw [hQ]
    exact h_zret hx hb hr hlk hsz hw (by simp) (by simp) dX7_isNeighbourOf_21 (bI_v hv) ⟨congrArg (fun z => some (Value.int z)) hv, rfl⟩
  refine lv_acmp_eq (rx := some nx) (ry := some g2) (tgt := 16) hx hb dX7_isNeighbourOf_5 (by decide) (fun c_1 => ?_) (fun c_1 => ?_)
  · skip
    refine lv_iconst (v := 1) hx hb dX7_isNeighbourOf_16 (by decide) ?_
    refine lv_goto (tgt := 21) hx hb dX7_isNeighbourOf_17 (by decide) ?_
    exact J_4 1 ls (lv_sub hl [0, 1] rfl) (by rw [if_pos c_1])
  · skip
    refine lv_aload_n hx hb dX7_isNeighbourOf_8 rfl (lv_at hl 1 rfl) ?_
    refine h_get (ci := 7) (v := .ref nx2) (C := RX7) (T := TX7) (N := 8) hx hb hts kl_X7 hown hK hw he2 rfl 7 (by decide) (hts _ kf_X7_40) rfl rfl dX7_isNeighbourOf_9 ?_
    refine lv_aload_n hx hb dX7_isNeighbourOf_12 rfl (lv_at hl 0 rfl) ?_
    refine lv_acmp_ne (rx := some nx2) (ry := some g) (tgt := 20) hx hb dX7_isNeighbourOf_13 (by decide) (fun c_2 => ?_) (fun c_2 => ?_)
    · skip
      refine lv_iconst (v := 0) hx hb dX7_isNeighbourOf_20 (by decide) ?_
      exact J_4 0 ls (lv_sub hl [0, 1] rfl) (by rw [if_neg c_1, if_neg c_2])
    · skip
      refine lv_iconst (v := 1) hx hb dX7_isNeighbourOf_16 (by decide) ?_
      refine lv_goto (tgt := 21) hx hb dX7_isNeighbourOf_17 (by decide) ?_
      exact J_4 1 ls (lv_sub hl [0, 1] rfl) (by rw [if_neg c_1, if_pos c_2])

def sgPasses (fx fy tx ty bx0b by0b bx1b by1b x y : Int32) : Bool := (if bxHas bx0b by0b bx1b by1b x y = false then false else (if (sgSide fx fy tx ty x y) = 0 then true else false))
set_option maxHeartbeats 4000000 in
set_option maxRecDepth 100000 in
theorem c_X7_passes (l : Launch) (D : va_G) (dT : Nat → ClassId) (ah : hA) (sz : Nat) (g rg bx : Nat) (nx : Option Nat) (no fx fy tx ty : Int32) (he : ah g = some (.inr (7, [.ref rg, .int no, .int fx, .int fy, .int tx, .int ty, .ref bx, va_rf nx]))) (bx0b by0b bx1b by1b : Int32) (hebb : ah bx = some (.inr (0, [.int bx0b, .int by0b, .int bx1b, .int by1b]))) (x y : Int32) : hMet l yX7_passes cX7_passes 3 (some .boolean) ({ frames := 1, cells := 0, slots := 0, locals := 22 }) D dT [.ref g, .int x, .int y] ah sz (fun r ah2 => r = some (.int (bI (sgPasses fx fy tx ty bx0b by0b bx1b by1b x y))) ∧ ah = ah2) 0 0 := by
  refine h_met (by decide) (Nat.le_of_ble_eq_true rfl) ?_
  intro p e s m below meth c ls R Q args hav hR hQ hB hl hsz hw
  obtain ⟨hx, hb, hml, hr, hts, hown, hlk, hin, hK⟩ := hB
  have hown : s.vm.findClass RX7 = some m.cls := hown
  have hl : lv_has ls 3 [(0, .ref g), (1, .int x), (2, .int y)] := hl
  refine lv_aload_n hx hb dX7_passes_0 rfl (lv_at hl 0 rfl) ?_
  refine h_get (ci := 7) (v := .ref bx) (C := RX7) (T := TX7) (N := 8) hx hb hts kl_X7 hown hK hw he rfl 6 (by decide) (hts _ kf_X7_32) rfl rfl dX7_passes_1 ?_
  refine lv_iload_n hx hb dX7_passes_4 rfl (lv_at hl 1 rfl) ?_
  refine lv_iload_n hx hb dX7_passes_5 rfl (lv_at hl 2 rfl) ?_
  refine h_callV (n := 2) (ci := 0) (b := bx) (As := [.int x, .int y]) (rest := []) ⟨hx, hb, hml, hown, hts⟩ hK hw (c_X0_has l D dT ah s.heap.size bx bx0b by0b bx1b by1b hebb x y) ko_X0_has km_X7_44 ki_X0_has ks_X0_has kn_X0 (by decide +kernel) rfl hebb rfl hl.1 rfl (by simp [Value.category]) dX7_passes_6 (by rw [hR]; exact ⟨rfl, rfl, Nat.le_of_ble_eq_true rfl, Nat.le_of_ble_eq_true rfl, by simp, by simp⟩) (fun r_1 ah_2 H_3 L_4 st_5 hp hw hst => ?_)
  obtain ⟨rfl, rfl⟩ := hp
  have hst : st_5 = [.int (bI (bxHas bx0b by0b bx1b by1b x y))] := hst
  subst hst
  refine lv_if_eq (tgt := 27) hx hb dX7_passes_9 (by decide) (fun c_6 => ?_) (fun c_6 => ?_)
  · skip
    have c_6 : bxHas bx0b by0b bx1b by1b x y = false := bI_0.mp c_6
    refine lv_iconst (v := 0) hx hb dX7_passes_27 (by decide) ?_
    have hv : 0 = bI (sgPasses fx fy tx ty bx0b by0b bx1b by1b x y) := by
      unfold sgPasses
      simp only [bI_if, bI_t, bI_f]
      all_goals rw [if_pos c_6]
    rw [hQ]
    exact h_zret hx hb hr hlk hsz hw (by simp) (by simp) dX7_passes_28 (bI_v hv) ⟨congrArg (fun z => some (Value.int z)) hv, rfl⟩
  · skip
    have c_6 : ¬ (bxHas bx0b by0b bx1b by1b x y = false) := (not_congr bI_0).mp c_6
    refine lv_aload_n hx hb dX7_passes_12 rfl (lv_at hl 0 rfl) ?_
    refine lv_iload_n hx hb dX7_passes_13 rfl (lv_at hl 1 rfl) ?_
    refine lv_iload_n hx hb dX7_passes_14 rfl (lv_at hl 2 rfl) ?_
    refine h_callV (n := 2) (ci := 7) (b := g) (As := [.int x, .int y]) (rest := []) ⟨hx, hb, hml, hown, hts⟩ hK hw (c_X7_side l D dT ah H_3.size g rg bx nx no fx fy tx ty he x y) ko_X7_side km_X7_48 ki_X7_side ks_X7_side kn_X7 (by decide +kernel) rfl he rfl hl.1 rfl (by simp [Value.category]) dX7_passes_15 (by rw [hR]; exact ⟨rfl, rfl, Nat.le_of_ble_eq_true rfl, Nat.le_of_ble_eq_true rfl, by simp, by simp⟩) (fun r_7 ah_8 H_9 L_10 st_11 hp hw hst => ?_)
    obtain ⟨rfl, rfl⟩ := hp
    have hst : st_11 = [.long (sgSide fx fy tx ty x y)] := hst
    subst hst
    refine lv_lconst (v := 0) hx hb dX7_passes_18 (by decide) ?_
    refine W.lcmp hx hb dX7_passes_19 ?_
    have J_14 : ∀ (v_13 : Int32) (ls : Array Slot), lv_has ls 3 [(0, .ref g), (1, .int x), (2, .int y)] → v_13 = (if (sgSide fx fy tx ty x y) = 0 then 1 else 0) → W p l e R s m args below meth c H_9 L_10 (0 + 0 + 0) (0 + 0 + 0) Q (F0 m 28 ls [.int v_13]) := by
      intro v_13 ls hl ev_13
      have hv : v_13 = bI (sgPasses fx fy tx ty bx0b by0b bx1b by1b x y) := by
        subst ev_13
        unfold sgPasses
        simp only [bI_if, bI_t, bI_f]
        all_goals rw [if_neg c_6]
      rw [hQ]
      exact h_zret hx hb hr hlk hsz hw (by simp) (by simp) dX7_passes_28 (bI_v hv) ⟨congrArg (fun z => some (Value.int z)) hv, rfl⟩
    refine lv_if_ne (tgt := 27) hx hb dX7_passes_20 (by decide) (fun c_12 => ?_) (fun c_12 => ?_)
    · skip
      have c_12 : ¬ ((sgSide fx fy tx ty x y) = 0) := (not_congr lgc_eq).mp c_12
      refine lv_iconst (v := 0) hx hb dX7_passes_27 (by decide) ?_
      exact J_14 0 ls (lv_sub hl [0, 1, 2] rfl) (by rw [if_neg c_12])
    · skip
      have c_12 : (sgSide fx fy tx ty x y) = 0 := lgc_eq.mp c_12
      refine lv_iconst (v := 1) hx hb dX7_passes_23 (by decide) ?_
      refine lv_goto (tgt := 28) hx hb dX7_passes_24 (by decide) ?_
      exact J_14 1 ls (lv_sub hl [0, 1, 2] rfl) (by rw [if_pos c_12])

def sgHit (fx fy tx ty x y : Int32) (dx dy : Int64) : Bool := (if ((if y < fy then 1 else (if fy = y then (if 0 ≤ dy then 0 else 1) else 0)) : Int32) = ((if y < ty then 1 else (if ty = y then (if 0 ≤ dy then 0 else 1) else 0)) : Int32) then false else (if ((if y < ty then 1 else (if ty = y then (if 0 ≤ dy then 0 else 1) else 0)) : Int32) = 0 then (if 0 ≤ ((if (sgSide fx fy tx ty x y) = 0 then ((((tx).toInt64 - (fx).toInt64) * dy) - (((ty).toInt64 - (fy).toInt64) * dx)) else (sgSide fx fy tx ty x y)) : Int64) then false else true) else (if ((if (sgSide fx fy tx ty x y) = 0 then ((((tx).toInt64 - (fx).toInt64) * dy) - (((ty).toInt64 - (fy).toInt64) * dx)) else (sgSide fx fy tx ty x y)) : Int64) ≤ 0 then false else true)))
set_option maxHeartbeats 4000000 in
set_option maxRecDepth 100000 in
theorem c_X7_isHitFrom (l : Launch) (D : va_G) (dT : Nat → ClassId) (ah : hA) (sz : Nat) (g rg bx : Nat) (nx : Option Nat) (no fx fy tx ty : Int32) (he : ah g = some (.inr (7, [.ref rg, .int no, .int fx, .int fy, .int tx, .int ty, .ref bx, va_rf nx]))) (x y : Int32) (dx dy : Int64) : hMet l yX7_isHitFrom cX7_isHitFrom 11 (some .boolean) ({ frames := 1, cells := 0, slots := 0, locals := 22 }) D dT [.ref g, .int x, .int y, .long dx, .long dy] ah sz (fun r ah2 => r = some (.int (bI (sgHit fx fy tx ty x y dx dy))) ∧ ah = ah2) 0 0 := by
  refine h_met (by decide) (Nat.le_of_ble_eq_true rfl) ?_
  intro p e s m below meth c ls R Q args hav hR hQ hB hl hsz hw
  obtain ⟨hx, hb, hml, hr, hts, hown, hlk, hin, hK⟩ := hB
  have hown : s.vm.findClass RX7 = some m.cls := hown
  have hl : lv_has ls 11 [(0, .ref g), (1, .int x), (2, .int y), (3, .long dx), (5, .long dy)] := hl
  refine lv_aload_n hx hb dX7_isHitFrom_0 rfl (lv_at hl 0 rfl) ?_
  refine h_get (ci := 7) (v := .int fy) (C := RX7) (T := TX7) (N := 8) hx hb hts kl_X7 hown hK hw he rfl 3 (by decide) (hts _ kf_X7_20) rfl rfl dX7_isHitFrom_1 ?_
  refine lv_iload_n hx hb dX7_isHitFrom_4 rfl (lv_at hl 2 rfl) ?_
  have J_5 : ∀ (v_4 : Int32) (ls : Array Slot), lv_has ls 11 [(0, .ref g), (1, .int x), (2, .int y), (3, .long dx), (5, .long dy)] → v_4 = (if y < fy then 1 else (if fy = y then (if 0 ≤ dy then 0 else 1) else 0)) → W p l e R s m args below meth c s.heap [] (0) (0) Q (F0 m 28 ls [.int v_4]) := by
    intro v_4 ls hl ev_4
    refine lv_istore (lv' := [(7, .int v_4), (0, .ref g), (1, .int x), (2, .int y), (3, .long dx), (5, .long dy)]) hx hb dX7_isHitFrom_28 hl (by decide) rfl (fun ls hl => ?_)
    refine lv_aload_n hx hb dX7_isHitFrom_30 rfl (lv_at hl 1 rfl) ?_
    refine h_get (ci := 7) (v := .int ty) (C := RX7) (T := TX7) (N := 8) hx hb hts kl_X7 hown hK hw he rfl 5 (by decide) (hts _ kf_X7_26) rfl rfl dX7_isHitFrom_31 ?_
    refine lv_iload_n hx hb dX7_isHitFrom_34 rfl (lv_at hl 3 rfl) ?_
    have J_10 : ∀ (v_9 : Int32) (ls : Array Slot), lv_has ls 11 [(7, .int v_4), (0, .ref g), (1, .int x), (2, .int y), (3, .long dx), (5, .long dy)] → v_9 = (if y < ty then 1 else (if ty = y then (if 0 ≤ dy then 0 else 1) else 0)) → W p l e R s m args below meth c s.heap [] (0) (0) Q (F0 m 58 ls [.int v_9]) := by
      intro v_9 ls hl ev_9
      refine lv_istore (lv' := [(8, .int v_9), (7, .int v_4), (0, .ref g), (1, .int x), (2, .int y), (3, .long dx), (5, .long dy)]) hx hb dX7_isHitFrom_58 hl (by decide) rfl (fun ls hl => ?_)
      refine lv_iload hx hb dX7_isHitFrom_60 (lv_at hl 1 rfl) ?_
      refine lv_iload hx hb dX7_isHitFrom_62 (lv_at hl 0 rfl) ?_
      refine lv_icmp_ne (tgt := 69) hx hb dX7_isHitFrom_64 (by decide) (fun c_11 => ?_) (fun c_11 => ?_)
      · skip
        refine lv_aload_n hx hb dX7_isHitFrom_69 rfl (lv_at hl 2 rfl) ?_
        refine lv_iload_n hx hb dX7_isHitFrom_70 rfl (lv_at hl 3 rfl) ?_
        refine lv_iload_n hx hb dX7_isHitFrom_71 rfl (lv_at hl 4 rfl) ?_
        refine h_callV (n := 2) (ci := 7) (b := g) (As := [.int x, .int y]) (rest := []) ⟨hx, hb, hml, hown, hts⟩ hK hw (c_X7_side l D dT ah s.heap.size g rg bx nx no fx fy tx ty he x y) ko_X7_side km_X7_48 ki_X7_side ks_X7_side kn_X7 (by decide +kernel) rfl he rfl hl.1 rfl (by simp [Value.category]) dX7_isHitFrom_72 (by rw [hR]; exact ⟨rfl, rfl, Nat.le_of_ble_eq_true rfl, Nat.le_of_ble_eq_true rfl, by simp, by simp⟩) (fun r_12 ah_13 H_14 L_15 st_16 hp hw hst => ?_)
        obtain ⟨rfl, rfl⟩ := hp
        have hst : st_16 = [.long (sgSide fx fy tx ty x y)] := hst
        subst hst
        refine lv_lstore (lv' := [(9, .long (sgSide fx fy tx ty x y)), (8, .int v_9), (7, .int v_4), (0, .ref g), (1, .int x), (2, .int y), (3, .long dx), (5, .long dy)]) hx hb dX7_isHitFrom_75 hl (by decide) rfl (fun ls hl => ?_)
        refine lv_lload hx hb dX7_isHitFrom_77 (lv_at hl 0 rfl) ?_
        refine lv_lconst (v := 0) hx hb dX7_isHitFrom_79 (by decide) ?_
        refine W.lcmp hx hb dX7_isHitFrom_80 ?_
        have J_19 : ∀ (v_18 : Int64) (ls : Array Slot), lv_has ls 11 [(9, .long v_18), (8, .int v_9), (7, .int v_4), (0, .ref g), (1, .int x), (2, .int y), (3, .long dx), (5, .long dy)] → v_18 = (if (sgSide fx fy tx ty x y) = 0 then ((((tx).toInt64 - (fx).toInt64) * dy) - (((ty).toInt64 - (fy).toInt64) * dx)) else (sgSide fx fy tx ty x y)) → W p l e R s m args below meth c H_14 L_15 (0 + 0) (0 + 0) Q (F0 m 114 ls []) := by
          intro v_18 ls hl ev_18
          refine lv_iload hx hb dX7_isHitFrom_114 (lv_at hl 1 rfl) ?_
          have J_24 : ∀ (v_23 : Int32) (ls : Array Slot), lv_has ls 11 [(9, .long v_18), (8, .int v_9), (7, .int v_4), (0, .ref g), (1, .int x), (2, .int y), (3, .long dx), (5, .long dy)] → v_23 = (if v_9 = 0 then (if 0 ≤ v_18 then 0 else 1) else (if v_18 ≤ 0 then 0 else 1)) → W p l e R s m args below meth c H_14 L_15 (0 + 0) (0 + 0) Q (F0 m 146 ls [.int v_23]) := by
            intro v_23 ls hl ev_23
            have hv : v_23 = bI (sgHit fx fy tx ty x y dx dy) := by
              subst ev_23
              subst ev_18
              subst ev_9
              subst ev_4
              unfold sgHit
              simp only [bI_if, bI_t, bI_f]
              all_goals rw [if_neg c_11]
            rw [hQ]
            exact h_zret hx hb hr hlk hsz hw (by simp) (by simp) dX7_isHitFrom_146 (bI_v hv) ⟨congrArg (fun z => some (Value.int z)) hv, rfl⟩
          refine lv_if_eq (tgt := 134) hx hb dX7_isHitFrom_116 (by decide) (fun c_20 => ?_) (fun c_20 => ?_)
          · skip
            refine lv_lload hx hb dX7_isHitFrom_134 (lv_at hl 0 rfl) ?_
            refine lv_lconst (v := 0) hx hb dX7_isHitFrom_136 (by decide) ?_
            refine W.lcmp hx hb dX7_isHitFrom_137 ?_
            refine lv_if_ge (tgt := 145) hx hb dX7_isHitFrom_138 (by decide) (fun c_21 => ?_) (fun c_21 => ?_)
            · skip
              have c_21 : 0 ≤ v_18 := lgc_ge.mp c_21
              refine lv_iconst (v := 0) hx hb dX7_isHitFrom_145 (by decide) ?_
              exact J_24 0 ls (lv_sub hl [0, 1, 2, 3, 4, 5, 6, 7] rfl) (by rw [if_pos c_20, if_pos c_21])
            · skip
              have c_21 : ¬ (0 ≤ v_18) := (not_congr lgc_ge).mp c_21
              refine lv_iconst (v := 1) hx hb dX7_isHitFrom_141 (by decide) ?_
              refine lv_goto (tgt := 146) hx hb dX7_isHitFrom_142 (by decide) ?_
              exact J_24 1 ls (lv_sub hl [0, 1, 2, 3, 4, 5, 6, 7] rfl) (by rw [if_pos c_20, if_neg c_21])
          · skip
            refine lv_lload hx hb dX7_isHitFrom_119 (lv_at hl 0 rfl) ?_
            refine lv_lconst (v := 0) hx hb dX7_isHitFrom_121 (by decide) ?_
            refine W.lcmp hx hb dX7_isHitFrom_122 ?_
            refine lv_if_le (tgt := 130) hx hb dX7_isHitFrom_123 (by decide) (fun c_22 => ?_) (fun c_22 => ?_)
            · skip
              have c_22 : v_18 ≤ 0 := lgc_le.mp c_22
              refine lv_iconst (v := 0) hx hb dX7_isHitFrom_130 (by decide) ?_
              refine lv_goto (tgt := 146) hx hb dX7_isHitFrom_131 (by decide) ?_
              exact J_24 0 ls (lv_sub hl [0, 1, 2, 3, 4, 5, 6, 7] rfl) (by rw [if_neg c_20, if_pos c_22])
            · skip
              have c_22 : ¬ (v_18 ≤ 0) := (not_congr lgc_le).mp c_22
              refine lv_iconst (v := 1) hx hb dX7_isHitFrom_126 (by decide) ?_
              refine lv_goto (tgt := 146) hx hb dX7_isHitFrom_127 (by decide) ?_
              exact J_24 1 ls (lv_sub hl [0, 1, 2, 3, 4, 5, 6, 7] rfl) (by rw [if_neg c_20, if_neg c_22])
        refine lv_if_ne (tgt := 114) hx hb dX7_isHitFrom_81 (by decide) (fun c_17 => ?_) (fun c_17 => ?_)
        · skip
          have c_17 : ¬ ((sgSide fx fy tx ty x y) = 0) := (not_congr lgc_eq).mp c_17
          exact J_19 (sgSide fx fy tx ty x y) ls (lv_sub hl [0, 1, 2, 3, 4, 5, 6, 7] rfl) (by rw [if_neg c_17])
        · skip
          have c_17 : (sgSide fx fy tx ty x y) = 0 := lgc_eq.mp c_17
          refine lv_aload_n hx hb dX7_isHitFrom_84 rfl (lv_at hl 3 rfl) ?_
          refine h_get (ci := 7) (v := .int tx) (C := RX7) (T := TX7) (N := 8) hx hb hts kl_X7 hown hK hw he rfl 4 (by decide) (hts _ kf_X7_23) rfl rfl dX7_isHitFrom_85 ?_
          refine lv_i2l (v := (tx).toInt64) hx hb dX7_isHitFrom_88 rfl ?_
          refine lv_aload_n hx hb dX7_isHitFrom_89 rfl (lv_at hl 3 rfl) ?_
          refine h_get (ci := 7) (v := .int fx) (C := RX7) (T := TX7) (N := 8) hx hb hts kl_X7 hown hK hw he rfl 2 (by decide) (hts _ kf_X7_17) rfl rfl dX7_isHitFrom_90 ?_
          refine lv_i2l (v := (fx).toInt64) hx hb dX7_isHitFrom_93 rfl ?_
          refine lv_lsub hx hb dX7_isHitFrom_94 ?_
          refine lv_lload hx hb dX7_isHitFrom_95 (lv_at hl 7 rfl) ?_
          refine lv_lmul hx hb dX7_isHitFrom_97 ?_
          refine lv_aload_n hx hb dX7_isHitFrom_98 rfl (lv_at hl 3 rfl) ?_
          refine h_get (ci := 7) (v := .int ty) (C := RX7) (T := TX7) (N := 8) hx hb hts kl_X7 hown hK hw he rfl 5 (by decide) (hts _ kf_X7_26) rfl rfl dX7_isHitFrom_99 ?_
          refine lv_i2l (v := (ty).toInt64) hx hb dX7_isHitFrom_102 rfl ?_
          refine lv_aload_n hx hb dX7_isHitFrom_103 rfl (lv_at hl 3 rfl) ?_
          refine h_get (ci := 7) (v := .int fy) (C := RX7) (T := TX7) (N := 8) hx hb hts kl_X7 hown hK hw he rfl 3 (by decide) (hts _ kf_X7_20) rfl rfl dX7_isHitFrom_104 ?_
          refine lv_i2l (v := (fy).toInt64) hx hb dX7_isHitFrom_107 rfl ?_
          refine lv_lsub hx hb dX7_isHitFrom_108 ?_
          refine lv_lload_n hx hb dX7_isHitFrom_109 rfl (lv_at hl 6 rfl) ?_
          refine lv_lmul hx hb dX7_isHitFrom_110 ?_
          refine lv_lsub hx hb dX7_isHitFrom_111 ?_
          refine lv_lstore (lv' := [(9, .long ((((tx).toInt64 - (fx).toInt64) * dy) - (((ty).toInt64 - (fy).toInt64) * dx))), (8, .int v_9), (7, .int v_4), (0, .ref g), (1, .int x), (2, .int y), (3, .long dx), (5, .long dy)]) hx hb dX7_isHitFrom_112 hl (by decide) rfl (fun ls hl => ?_)
          exact J_19 ((((tx).toInt64 - (fx).toInt64) * dy) - (((ty).toInt64 - (fy).toInt64) * dx)) ls (lv_sub hl [0, 1, 2, 3, 4, 5, 6, 7] rfl) (by rw [if_pos c_17])
      · skip
        refine lv_iconst (v := 0) hx hb dX7_isHitFrom_67 (by decide) ?_
        have hv : 0 = bI (sgHit fx fy tx ty x y dx dy) := by
          subst ev_9
          subst ev_4
          unfold sgHit
          simp only [bI_if, bI_t, bI_f]
          all_goals rw [if_pos c_11]
        rw [hQ]
        exact h_zret hx hb hr hlk hsz hw (by simp) (by simp) dX7_isHitFrom_68 (bI_v hv) ⟨congrArg (fun z => some (Value.int z)) hv, rfl⟩
    refine lv_icmp_gt (tgt := 53) hx hb dX7_isHitFrom_35 (by decide) (fun c_6 => ?_) (fun c_6 => ?_)
    · skip
      refine lv_iconst (v := 1) hx hb dX7_isHitFrom_53 (by decide) ?_
      refine lv_goto (tgt := 58) hx hb dX7_isHitFrom_54 (by decide) ?_
      exact J_10 1 ls (lv_sub hl [0, 1, 2, 3, 4, 5] rfl) (by rw [if_pos c_6])
    · skip
      refine lv_aload_n hx hb dX7_isHitFrom_38 rfl (lv_at hl 1 rfl) ?_
      refine h_get (ci := 7) (v := .int ty) (C := RX7) (T := TX7) (N := 8) hx hb hts kl_X7 hown hK hw he rfl 5 (by decide) (hts _ kf_X7_26) rfl rfl dX7_isHitFrom_39 ?_
      refine lv_iload_n hx hb dX7_isHitFrom_42 rfl (lv_at hl 3 rfl) ?_
      refine lv_icmp_ne (tgt := 57) hx hb dX7_isHitFrom_43 (by decide) (fun c_7 => ?_) (fun c_7 => ?_)
      · skip
        refine lv_iconst (v := 0) hx hb dX7_isHitFrom_57 (by decide) ?_
        exact J_10 0 ls (lv_sub hl [0, 1, 2, 3, 4, 5] rfl) (by rw [if_neg c_6, if_neg c_7])
      · skip
        refine lv_lload hx hb dX7_isHitFrom_46 (lv_at hl 5 rfl) ?_
        refine lv_lconst (v := 0) hx hb dX7_isHitFrom_48 (by decide) ?_
        refine W.lcmp hx hb dX7_isHitFrom_49 ?_
        refine lv_if_ge (tgt := 57) hx hb dX7_isHitFrom_50 (by decide) (fun c_8 => ?_) (fun c_8 => ?_)
        · skip
          have c_8 : 0 ≤ dy := lgc_ge.mp c_8
          refine lv_iconst (v := 0) hx hb dX7_isHitFrom_57 (by decide) ?_
          exact J_10 0 ls (lv_sub hl [0, 1, 2, 3, 4, 5] rfl) (by rw [if_neg c_6, if_pos c_7, if_pos c_8])
        · skip
          have c_8 : ¬ (0 ≤ dy) := (not_congr lgc_ge).mp c_8
          refine lv_iconst (v := 1) hx hb dX7_isHitFrom_53 (by decide) ?_
          refine lv_goto (tgt := 58) hx hb dX7_isHitFrom_54 (by decide) ?_
          exact J_10 1 ls (lv_sub hl [0, 1, 2, 3, 4, 5] rfl) (by rw [if_neg c_6, if_pos c_7, if_neg c_8])
  refine lv_icmp_gt (tgt := 23) hx hb dX7_isHitFrom_5 (by decide) (fun c_1 => ?_) (fun c_1 => ?_)
  · skip
    refine lv_iconst (v := 1) hx hb dX7_isHitFrom_23 (by decide) ?_
    refine lv_goto (tgt := 28) hx hb dX7_isHitFrom_24 (by decide) ?_
    exact J_5 1 ls (lv_sub hl [0, 1, 2, 3, 4] rfl) (by rw [if_pos c_1])
  · skip
    refine lv_aload_n hx hb dX7_isHitFrom_8 rfl (lv_at hl 0 rfl) ?_
    refine h_get (ci := 7) (v := .int fy) (C := RX7) (T := TX7) (N := 8) hx hb hts kl_X7 hown hK hw he rfl 3 (by decide) (hts _ kf_X7_20) rfl rfl dX7_isHitFrom_9 ?_
    refine lv_iload_n hx hb dX7_isHitFrom_12 rfl (lv_at hl 2 rfl) ?_
    refine lv_icmp_ne (tgt := 27) hx hb dX7_isHitFrom_13 (by decide) (fun c_2 => ?_) (fun c_2 => ?_)
    · skip
      refine lv_iconst (v := 0) hx hb dX7_isHitFrom_27 (by decide) ?_
      exact J_5 0 ls (lv_sub hl [0, 1, 2, 3, 4] rfl) (by rw [if_neg c_1, if_neg c_2])
    · skip
      refine lv_lload hx hb dX7_isHitFrom_16 (lv_at hl 4 rfl) ?_
      refine lv_lconst (v := 0) hx hb dX7_isHitFrom_18 (by decide) ?_
      refine W.lcmp hx hb dX7_isHitFrom_19 ?_
      refine lv_if_ge (tgt := 27) hx hb dX7_isHitFrom_20 (by decide) (fun c_3 => ?_) (fun c_3 => ?_)
      · skip
        have c_3 : 0 ≤ dy := lgc_ge.mp c_3
        refine lv_iconst (v := 0) hx hb dX7_isHitFrom_27 (by decide) ?_
        exact J_5 0 ls (lv_sub hl [0, 1, 2, 3, 4] rfl) (by rw [if_neg c_1, if_pos c_2, if_pos c_3])
      · skip
        have c_3 : ¬ (0 ≤ dy) := (not_congr lgc_ge).mp c_3
        refine lv_iconst (v := 1) hx hb dX7_isHitFrom_23 (by decide) ?_
        refine lv_goto (tgt := 28) hx hb dX7_isHitFrom_24 (by decide) ?_
        exact J_5 1 ls (lv_sub hl [0, 1, 2, 3, 4] rfl) (by rw [if_neg c_1, if_pos c_2, if_neg c_3])

def sgLeft (fx fy tx ty tx2 ty2 x y wx wy : Int32) : Bool := (if tx = x then (if ty = y then (if ((((tx2).toInt64 - (x).toInt64) * ((fy).toInt64 - (y).toInt64)) - (((ty2).toInt64 - (y).toInt64) * ((fx).toInt64 - (x).toInt64))) ≤ 0 then (if 0 ≤ ((((tx2).toInt64 - (x).toInt64) * ((fy).toInt64 - (y).toInt64)) - (((ty2).toInt64 - (y).toInt64) * ((fx).toInt64 - (x).toInt64))) then (if ((if 0 ≤ ((((tx2).toInt64 - (x).toInt64) * ((fx).toInt64 - (x).toInt64)) + (((ty2).toInt64 - (y).toInt64) * ((fy).toInt64 - (y).toInt64))) then 0 else 1) : Int32) = 0 then false else (if ((if ((((tx2).toInt64 - (x).toInt64) * ((wy).toInt64 - (y).toInt64)) - (((ty2).toInt64 - (y).toInt64) * ((wx).toInt64 - (x).toInt64))) ≤ 0 then 0 else 1) : Int32) = 0 then false else true)) else (if ((if ((((tx2).toInt64 - (x).toInt64) * ((wy).toInt64 - (y).toInt64)) - (((ty2).toInt64 - (y).toInt64) * ((wx).toInt64 - (x).toInt64))) ≤ 0 then 0 else 1) : Int32) = 0 then (if ((if ((((wx).toInt64 - (x).toInt64) * ((fy).toInt64 - (y).toInt64)) - (((wy).toInt64 - (y).toInt64) * ((fx).toInt64 - (x).toInt64))) ≤ 0 then 0 else 1) : Int32) = 0 then false else true) else true)) else (if ((if ((((tx2).toInt64 - (x).toInt64) * ((wy).toInt64 - (y).toInt64)) - (((ty2).toInt64 - (y).toInt64) * ((wx).toInt64 - (x).toInt64))) ≤ 0 then 0 else 1) : Int32) = 0 then false else (if ((if ((((wx).toInt64 - (x).toInt64) * ((fy).toInt64 - (y).toInt64)) - (((wy).toInt64 - (y).toInt64) * ((fx).toInt64 - (x).toInt64))) ≤ 0 then 0 else 1) : Int32) = 0 then false else true))) else (if ((((tx).toInt64 - (x).toInt64) * ((fy).toInt64 - (y).toInt64)) - (((ty).toInt64 - (y).toInt64) * ((fx).toInt64 - (x).toInt64))) ≤ 0 then (if 0 ≤ ((((tx).toInt64 - (x).toInt64) * ((fy).toInt64 - (y).toInt64)) - (((ty).toInt64 - (y).toInt64) * ((fx).toInt64 - (x).toInt64))) then (if ((if 0 ≤ ((((tx).toInt64 - (x).toInt64) * ((fx).toInt64 - (x).toInt64)) + (((ty).toInt64 - (y).toInt64) * ((fy).toInt64 - (y).toInt64))) then 0 else 1) : Int32) = 0 then false else (if ((if ((((tx).toInt64 - (x).toInt64) * ((wy).toInt64 - (y).toInt64)) - (((ty).toInt64 - (y).toInt64) * ((wx).toInt64 - (x).toInt64))) ≤ 0 then 0 else 1) : Int32) = 0 then false else true)) else (if ((if ((((tx).toInt64 - (x).toInt64) * ((wy).toInt64 - (y).toInt64)) - (((ty).toInt64 - (y).toInt64) * ((wx).toInt64 - (x).toInt64))) ≤ 0 then 0 else 1) : Int32) = 0 then (if ((if ((((wx).toInt64 - (x).toInt64) * ((fy).toInt64 - (y).toInt64)) - (((wy).toInt64 - (y).toInt64) * ((fx).toInt64 - (x).toInt64))) ≤ 0 then 0 else 1) : Int32) = 0 then false else true) else true)) else (if ((if ((((tx).toInt64 - (x).toInt64) * ((wy).toInt64 - (y).toInt64)) - (((ty).toInt64 - (y).toInt64) * ((wx).toInt64 - (x).toInt64))) ≤ 0 then 0 else 1) : Int32) = 0 then false else (if ((if ((((wx).toInt64 - (x).toInt64) * ((fy).toInt64 - (y).toInt64)) - (((wy).toInt64 - (y).toInt64) * ((fx).toInt64 - (x).toInt64))) ≤ 0 then 0 else 1) : Int32) = 0 then false else true)))) else (if ((((tx).toInt64 - (x).toInt64) * ((fy).toInt64 - (y).toInt64)) - (((ty).toInt64 - (y).toInt64) * ((fx).toInt64 - (x).toInt64))) ≤ 0 then (if 0 ≤ ((((tx).toInt64 - (x).toInt64) * ((fy).toInt64 - (y).toInt64)) - (((ty).toInt64 - (y).toInt64) * ((fx).toInt64 - (x).toInt64))) then (if ((if 0 ≤ ((((tx).toInt64 - (x).toInt64) * ((fx).toInt64 - (x).toInt64)) + (((ty).toInt64 - (y).toInt64) * ((fy).toInt64 - (y).toInt64))) then 0 else 1) : Int32) = 0 then false else (if ((if ((((tx).toInt64 - (x).toInt64) * ((wy).toInt64 - (y).toInt64)) - (((ty).toInt64 - (y).toInt64) * ((wx).toInt64 - (x).toInt64))) ≤ 0 then 0 else 1) : Int32) = 0 then false else true)) else (if ((if ((((tx).toInt64 - (x).toInt64) * ((wy).toInt64 - (y).toInt64)) - (((ty).toInt64 - (y).toInt64) * ((wx).toInt64 - (x).toInt64))) ≤ 0 then 0 else 1) : Int32) = 0 then (if ((if ((((wx).toInt64 - (x).toInt64) * ((fy).toInt64 - (y).toInt64)) - (((wy).toInt64 - (y).toInt64) * ((fx).toInt64 - (x).toInt64))) ≤ 0 then 0 else 1) : Int32) = 0 then false else true) else true)) else (if ((if ((((tx).toInt64 - (x).toInt64) * ((wy).toInt64 - (y).toInt64)) - (((ty).toInt64 - (y).toInt64) * ((wx).toInt64 - (x).toInt64))) ≤ 0 then 0 else 1) : Int32) = 0 then false else (if ((if ((((wx).toInt64 - (x).toInt64) * ((fy).toInt64 - (y).toInt64)) - (((wy).toInt64 - (y).toInt64) * ((fx).toInt64 - (x).toInt64))) ≤ 0 then 0 else 1) : Int32) = 0 then false else true))))
set_option maxHeartbeats 4000000 in
set_option maxRecDepth 100000 in
theorem c_X7_hasOnLeft (l : Launch) (D : va_G) (dT : Nat → ClassId) (ah : hA) (sz : Nat) (g rg bx nx : Nat) (no fx fy tx ty : Int32) (he : ah g = some (.inr (7, [.ref rg, .int no, .int fx, .int fy, .int tx, .int ty, .ref bx, .ref nx]))) (rg2 bx2 nx2 : Nat) (no2 fx2 fy2 tx2 ty2 : Int32) (he2 : ah nx = some (.inr (7, [.ref rg2, .int no2, .int fx2, .int fy2, .int tx2, .int ty2, .ref bx2, .ref nx2]))) (x y wx wy : Int32) : hMet l yX7_hasOnLeft cX7_hasOnLeft 23 (some .boolean) ({ frames := 0, cells := 0, slots := 0, locals := 0 }) D dT [.ref g, .int x, .int y, .int wx, .int wy] ah sz (fun r ah2 => r = some (.int (bI (sgLeft fx fy tx ty tx2 ty2 x y wx wy))) ∧ ah = ah2) 0 0 := by
  refine h_met (by decide) (Nat.le_of_ble_eq_true rfl) ?_
  intro p e s m below meth c ls R Q args hav hR hQ hB hl hsz hw
  obtain ⟨hx, hb, hml, hr, hts, hown, hlk, hin, hK⟩ := hB
  have hown : s.vm.findClass RX7 = some m.cls := hown
  have hl : lv_has ls 23 [(0, .ref g), (1, .int x), (2, .int y), (3, .int wx), (4, .int wy)] := hl
  refine lv_aload_n hx hb dX7_hasOnLeft_0 rfl (lv_at hl 0 rfl) ?_
  refine h_get (ci := 7) (v := .int tx) (C := RX7) (T := TX7) (N := 8) hx hb hts kl_X7 hown hK hw he rfl 4 (by decide) (hts _ kf_X7_23) rfl rfl dX7_hasOnLeft_1 ?_
  refine lv_iload_n hx hb dX7_hasOnLeft_4 rfl (lv_at hl 1 rfl) ?_
  refine lv_icmp_ne (tgt := 30) hx hb dX7_hasOnLeft_5 (by decide) (fun c_1 => ?_) (fun c_1 => ?_)
  · skip
    refine lv_aload_n hx hb dX7_hasOnLeft_30 rfl (lv_at hl 0 rfl) ?_
    refine lv_astore (lv' := [(5, .ref g), (0, .ref g), (1, .int x), (2, .int y), (3, .int wx), (4, .int wy)]) hx hb dX7_hasOnLeft_31 hl (by decide) rfl (fun ls hl => ?_)
    refine lv_aload hx hb dX7_hasOnLeft_33 (lv_at hl 0 rfl) ?_
    refine h_get (ci := 7) (v := .int tx) (C := RX7) (T := TX7) (N := 8) hx hb hts kl_X7 hown hK hw he rfl 4 (by decide) (hts _ kf_X7_23) rfl rfl dX7_hasOnLeft_35 ?_
    refine lv_i2l (v := (tx).toInt64) hx hb dX7_hasOnLeft_38 rfl ?_
    refine lv_iload_n hx hb dX7_hasOnLeft_39 rfl (lv_at hl 2 rfl) ?_
    refine lv_i2l (v := (x).toInt64) hx hb dX7_hasOnLeft_40 rfl ?_
    refine lv_lsub hx hb dX7_hasOnLeft_41 ?_
    refine lv_lstore (lv' := [(6, .long ((tx).toInt64 - (x).toInt64)), (5, .ref g), (0, .ref g), (1, .int x), (2, .int y), (3, .int wx), (4, .int wy)]) hx hb dX7_hasOnLeft_42 hl (by decide) rfl (fun ls hl => ?_)
    refine lv_aload hx hb dX7_hasOnLeft_44 (lv_at hl 1 rfl) ?_
    refine h_get (ci := 7) (v := .int ty) (C := RX7) (T := TX7) (N := 8) hx hb hts kl_X7 hown hK hw he rfl 5 (by decide) (hts _ kf_X7_26) rfl rfl dX7_hasOnLeft_46 ?_
    refine lv_i2l (v := (ty).toInt64) hx hb dX7_hasOnLeft_49 rfl ?_
    refine lv_iload_n hx hb dX7_hasOnLeft_50 rfl (lv_at hl 4 rfl) ?_
    refine lv_i2l (v := (y).toInt64) hx hb dX7_hasOnLeft_51 rfl ?_
    refine lv_lsub hx hb dX7_hasOnLeft_52 ?_
    refine lv_lstore (lv' := [(8, .long ((ty).toInt64 - (y).toInt64)), (6, .long ((tx).toInt64 - (x).toInt64)), (5, .ref g), (0, .ref g), (1, .int x), (2, .int y), (3, .int wx), (4, .int wy)]) hx hb dX7_hasOnLeft_53 hl (by decide) rfl (fun ls hl => ?_)
    refine lv_aload_n hx hb dX7_hasOnLeft_55 rfl (lv_at hl 3 rfl) ?_
    refine h_get (ci := 7) (v := .int fx) (C := RX7) (T := TX7) (N := 8) hx hb hts kl_X7 hown hK hw he rfl 2 (by decide) (hts _ kf_X7_17) rfl rfl dX7_hasOnLeft_56 ?_
    refine lv_i2l (v := (fx).toInt64) hx hb dX7_hasOnLeft_59 rfl ?_
    refine lv_iload_n hx hb dX7_hasOnLeft_60 rfl (lv_at hl 4 rfl) ?_
    refine lv_i2l (v := (x).toInt64) hx hb dX7_hasOnLeft_61 rfl ?_
    refine lv_lsub hx hb dX7_hasOnLeft_62 ?_
    refine lv_lstore (lv' := [(10, .long ((fx).toInt64 - (x).toInt64)), (8, .long ((ty).toInt64 - (y).toInt64)), (6, .long ((tx).toInt64 - (x).toInt64)), (5, .ref g), (0, .ref g), (1, .int x), (2, .int y), (3, .int wx), (4, .int wy)]) hx hb dX7_hasOnLeft_63 hl (by decide) rfl (fun ls hl => ?_)
    refine lv_aload_n hx hb dX7_hasOnLeft_65 rfl (lv_at hl 4 rfl) ?_
    refine h_get (ci := 7) (v := .int fy) (C := RX7) (T := TX7) (N := 8) hx hb hts kl_X7 hown hK hw he rfl 3 (by decide) (hts _ kf_X7_20) rfl rfl dX7_hasOnLeft_66 ?_
    refine lv_i2l (v := (fy).toInt64) hx hb dX7_hasOnLeft_69 rfl ?_
    refine lv_iload_n hx hb dX7_hasOnLeft_70 rfl (lv_at hl 6 rfl) ?_
    refine lv_i2l (v := (y).toInt64) hx hb dX7_hasOnLeft_71 rfl ?_
    refine lv_lsub hx hb dX7_hasOnLeft_72 ?_
    refine lv_lstore (lv' := [(12, .long ((fy).toInt64 - (y).toInt64)), (10, .long ((fx).toInt64 - (x).toInt64)), (8, .long ((ty).toInt64 - (y).toInt64)), (6, .long ((tx).toInt64 - (x).toInt64)), (5, .ref g), (0, .ref g), (1, .int x), (2, .int y), (3, .int wx), (4, .int wy)]) hx hb dX7_hasOnLeft_73 hl (by decide) rfl (fun ls hl => ?_)
    refine lv_iload_n hx hb dX7_hasOnLeft_75 rfl (lv_at hl 8 rfl) ?_
    refine lv_i2l (v := (wx).toInt64) hx hb dX7_hasOnLeft_76 rfl ?_
    refine lv_iload_n hx hb dX7_hasOnLeft_77 rfl (lv_at hl 6 rfl) ?_
    refine lv_i2l (v := (x).toInt64) hx hb dX7_hasOnLeft_78 rfl ?_
    refine lv_lsub hx hb dX7_hasOnLeft_79 ?_
    refine lv_lstore (lv' := [(14, .long ((wx).toInt64 - (x).toInt64)), (12, .long ((fy).toInt64 - (y).toInt64)), (10, .long ((fx).toInt64 - (x).toInt64)), (8, .long ((ty).toInt64 - (y).toInt64)), (6, .long ((tx).toInt64 - (x).toInt64)), (5, .ref g), (0, .ref g), (1, .int x), (2, .int y), (3, .int wx), (4, .int wy)]) hx hb dX7_hasOnLeft_80 hl (by decide) rfl (fun ls hl => ?_)
    refine lv_iload hx hb dX7_hasOnLeft_82 (lv_at hl 10 rfl) ?_
    refine lv_i2l (v := (wy).toInt64) hx hb dX7_hasOnLeft_84 rfl ?_
    refine lv_iload_n hx hb dX7_hasOnLeft_85 rfl (lv_at hl 8 rfl) ?_
    refine lv_i2l (v := (y).toInt64) hx hb dX7_hasOnLeft_86 rfl ?_
    refine lv_lsub hx hb dX7_hasOnLeft_87 ?_
    refine lv_lstore (lv' := [(16, .long ((wy).toInt64 - (y).toInt64)), (14, .long ((wx).toInt64 - (x).toInt64)), (12, .long ((fy).toInt64 - (y).toInt64)), (10, .long ((fx).toInt64 - (x).toInt64)), (8, .long ((ty).toInt64 - (y).toInt64)), (6, .long ((tx).toInt64 - (x).toInt64)), (5, .ref g), (0, .ref g), (1, .int x), (2, .int y), (3, .int wx), (4, .int wy)]) hx hb dX7_hasOnLeft_88 hl (by decide) rfl (fun ls hl => ?_)
    refine lv_lload hx hb dX7_hasOnLeft_90 (lv_at hl 5 rfl) ?_
    refine lv_lload hx hb dX7_hasOnLeft_92 (lv_at hl 2 rfl) ?_
    refine lv_lmul hx hb dX7_hasOnLeft_94 ?_
    refine lv_lload hx hb dX7_hasOnLeft_95 (lv_at hl 4 rfl) ?_
    refine lv_lload hx hb dX7_hasOnLeft_97 (lv_at hl 3 rfl) ?_
    refine lv_lmul hx hb dX7_hasOnLeft_99 ?_
    refine lv_lsub hx hb dX7_hasOnLeft_100 ?_
    refine lv_lstore (lv' := [(18, .long ((((tx).toInt64 - (x).toInt64) * ((fy).toInt64 - (y).toInt64)) - (((ty).toInt64 - (y).toInt64) * ((fx).toInt64 - (x).toInt64)))), (16, .long ((wy).toInt64 - (y).toInt64)), (14, .long ((wx).toInt64 - (x).toInt64)), (12, .long ((fy).toInt64 - (y).toInt64)), (10, .long ((fx).toInt64 - (x).toInt64)), (8, .long ((ty).toInt64 - (y).toInt64)), (6, .long ((tx).toInt64 - (x).toInt64)), (5, .ref g), (0, .ref g), (1, .int x), (2, .int y), (3, .int wx), (4, .int wy)]) hx hb dX7_hasOnLeft_101 hl (by decide) rfl (fun ls hl => ?_)
    refine lv_lload hx hb dX7_hasOnLeft_103 (lv_at hl 6 rfl) ?_
    refine lv_lload hx hb dX7_hasOnLeft_105 (lv_at hl 1 rfl) ?_
    refine lv_lmul hx hb dX7_hasOnLeft_107 ?_
    refine lv_lload hx hb dX7_hasOnLeft_108 (lv_at hl 5 rfl) ?_
    refine lv_lload hx hb dX7_hasOnLeft_110 (lv_at hl 2 rfl) ?_
    refine lv_lmul hx hb dX7_hasOnLeft_112 ?_
    refine lv_lsub hx hb dX7_hasOnLeft_113 ?_
    refine lv_lconst (v := 0) hx hb dX7_hasOnLeft_114 (by decide) ?_
    refine W.lcmp hx hb dX7_hasOnLeft_115 ?_
    have J_4 : ∀ (v_3 : Int32) (ls : Array Slot), lv_has ls 23 [(18, .long ((((tx).toInt64 - (x).toInt64) * ((fy).toInt64 - (y).toInt64)) - (((ty).toInt64 - (y).toInt64) * ((fx).toInt64 - (x).toInt64)))), (16, .long ((wy).toInt64 - (y).toInt64)), (14, .long ((wx).toInt64 - (x).toInt64)), (12, .long ((fy).toInt64 - (y).toInt64)), (10, .long ((fx).toInt64 - (x).toInt64)), (8, .long ((ty).toInt64 - (y).toInt64)), (6, .long ((tx).toInt64 - (x).toInt64)), (5, .ref g), (0, .ref g), (1, .int x), (2, .int y), (3, .int wx), (4, .int wy)] → v_3 = (if ((((tx).toInt64 - (x).toInt64) * ((wy).toInt64 - (y).toInt64)) - (((ty).toInt64 - (y).toInt64) * ((wx).toInt64 - (x).toInt64))) ≤ 0 then 0 else 1) → W p l e R s m args below meth c s.heap [] (0) (0) Q (F0 m 124 ls [.int v_3]) := by
      intro v_3 ls hl ev_3
      refine lv_istore (lv' := [(20, .int v_3), (18, .long ((((tx).toInt64 - (x).toInt64) * ((fy).toInt64 - (y).toInt64)) - (((ty).toInt64 - (y).toInt64) * ((fx).toInt64 - (x).toInt64)))), (16, .long ((wy).toInt64 - (y).toInt64)), (14, .long ((wx).toInt64 - (x).toInt64)), (12, .long ((fy).toInt64 - (y).toInt64)), (10, .long ((fx).toInt64 - (x).toInt64)), (8, .long ((ty).toInt64 - (y).toInt64)), (6, .long ((tx).toInt64 - (x).toInt64)), (5, .ref g), (0, .ref g), (1, .int x), (2, .int y), (3, .int wx), (4, .int wy)]) hx hb dX7_hasOnLeft_124 hl (by decide) rfl (fun ls hl => ?_)
      refine lv_lload hx hb dX7_hasOnLeft_126 (lv_at hl 3 rfl) ?_
      refine lv_lload hx hb dX7_hasOnLeft_128 (lv_at hl 4 rfl) ?_
      refine lv_lmul hx hb dX7_hasOnLeft_130 ?_
      refine lv_lload hx hb dX7_hasOnLeft_131 (lv_at hl 2 rfl) ?_
      refine lv_lload hx hb dX7_hasOnLeft_133 (lv_at hl 5 rfl) ?_
      refine lv_lmul hx hb dX7_hasOnLeft_135 ?_
      refine lv_lsub hx hb dX7_hasOnLeft_136 ?_
      refine lv_lconst (v := 0) hx hb dX7_hasOnLeft_137 (by decide) ?_
      refine W.lcmp hx hb dX7_hasOnLeft_138 ?_
      have J_7 : ∀ (v_6 : Int32) (ls : Array Slot), lv_has ls 23 [(20, .int v_3), (18, .long ((((tx).toInt64 - (x).toInt64) * ((fy).toInt64 - (y).toInt64)) - (((ty).toInt64 - (y).toInt64) * ((fx).toInt64 - (x).toInt64)))), (16, .long ((wy).toInt64 - (y).toInt64)), (14, .long ((wx).toInt64 - (x).toInt64)), (12, .long ((fy).toInt64 - (y).toInt64)), (10, .long ((fx).toInt64 - (x).toInt64)), (8, .long ((ty).toInt64 - (y).toInt64)), (6, .long ((tx).toInt64 - (x).toInt64)), (5, .ref g), (0, .ref g), (1, .int x), (2, .int y), (3, .int wx), (4, .int wy)] → v_6 = (if ((((wx).toInt64 - (x).toInt64) * ((fy).toInt64 - (y).toInt64)) - (((wy).toInt64 - (y).toInt64) * ((fx).toInt64 - (x).toInt64))) ≤ 0 then 0 else 1) → W p l e R s m args below meth c s.heap [] (0) (0) Q (F0 m 147 ls [.int v_6]) := by
        intro v_6 ls hl ev_6
        refine lv_istore (lv' := [(21, .int v_6), (20, .int v_3), (18, .long ((((tx).toInt64 - (x).toInt64) * ((fy).toInt64 - (y).toInt64)) - (((ty).toInt64 - (y).toInt64) * ((fx).toInt64 - (x).toInt64)))), (16, .long ((wy).toInt64 - (y).toInt64)), (14, .long ((wx).toInt64 - (x).toInt64)), (12, .long ((fy).toInt64 - (y).toInt64)), (10, .long ((fx).toInt64 - (x).toInt64)), (8, .long ((ty).toInt64 - (y).toInt64)), (6, .long ((tx).toInt64 - (x).toInt64)), (5, .ref g), (0, .ref g), (1, .int x), (2, .int y), (3, .int wx), (4, .int wy)]) hx hb dX7_hasOnLeft_147 hl (by decide) rfl (fun ls hl => ?_)
        refine lv_lload hx hb dX7_hasOnLeft_149 (lv_at hl 2 rfl) ?_
        refine lv_lconst (v := 0) hx hb dX7_hasOnLeft_151 (by decide) ?_
        refine W.lcmp hx hb dX7_hasOnLeft_152 ?_
        refine lv_if_le (tgt := 172) hx hb dX7_hasOnLeft_153 (by decide) (fun c_8 => ?_) (fun c_8 => ?_)
        · skip
          have c_8 : ((((tx).toInt64 - (x).toInt64) * ((fy).toInt64 - (y).toInt64)) - (((ty).toInt64 - (y).toInt64) * ((fx).toInt64 - (x).toInt64))) ≤ 0 := lgc_le.mp c_8
          refine lv_lload hx hb dX7_hasOnLeft_172 (lv_at hl 2 rfl) ?_
          refine lv_lconst (v := 0) hx hb dX7_hasOnLeft_174 (by decide) ?_
          refine W.lcmp hx hb dX7_hasOnLeft_175 ?_
          refine lv_if_ge (tgt := 195) hx hb dX7_hasOnLeft_176 (by decide) (fun c_9 => ?_) (fun c_9 => ?_)
          · skip
            have c_9 : 0 ≤ ((((tx).toInt64 - (x).toInt64) * ((fy).toInt64 - (y).toInt64)) - (((ty).toInt64 - (y).toInt64) * ((fx).toInt64 - (x).toInt64))) := lgc_ge.mp c_9
            refine lv_lload hx hb dX7_hasOnLeft_195 (lv_at hl 8 rfl) ?_
            refine lv_lload hx hb dX7_hasOnLeft_197 (lv_at hl 6 rfl) ?_
            refine lv_lmul hx hb dX7_hasOnLeft_199 ?_
            refine lv_lload hx hb dX7_hasOnLeft_200 (lv_at hl 7 rfl) ?_
            refine lv_lload hx hb dX7_hasOnLeft_202 (lv_at hl 5 rfl) ?_
            refine lv_lmul hx hb dX7_hasOnLeft_204 ?_
            refine lv_ladd hx hb dX7_hasOnLeft_205 ?_
            refine lv_lconst (v := 0) hx hb dX7_hasOnLeft_206 (by decide) ?_
            refine W.lcmp hx hb dX7_hasOnLeft_207 ?_
            have J_12 : ∀ (v_11 : Int32) (ls : Array Slot), lv_has ls 23 [(21, .int v_6), (20, .int v_3), (18, .long ((((tx).toInt64 - (x).toInt64) * ((fy).toInt64 - (y).toInt64)) - (((ty).toInt64 - (y).toInt64) * ((fx).toInt64 - (x).toInt64)))), (16, .long ((wy).toInt64 - (y).toInt64)), (14, .long ((wx).toInt64 - (x).toInt64)), (12, .long ((fy).toInt64 - (y).toInt64)), (10, .long ((fx).toInt64 - (x).toInt64)), (8, .long ((ty).toInt64 - (y).toInt64)), (6, .long ((tx).toInt64 - (x).toInt64)), (5, .ref g), (0, .ref g), (1, .int x), (2, .int y), (3, .int wx), (4, .int wy)] → v_11 = (if 0 ≤ ((((tx).toInt64 - (x).toInt64) * ((fx).toInt64 - (x).toInt64)) + (((ty).toInt64 - (y).toInt64) * ((fy).toInt64 - (y).toInt64))) then 0 else 1) → W p l e R s m args below meth c s.heap [] (0) (0) Q (F0 m 216 ls [.int v_11]) := by
              intro v_11 ls hl ev_11
              refine lv_istore (lv' := [(22, .int v_11), (21, .int v_6), (20, .int v_3), (18, .long ((((tx).toInt64 - (x).toInt64) * ((fy).toInt64 - (y).toInt64)) - (((ty).toInt64 - (y).toInt64) * ((fx).toInt64 - (x).toInt64)))), (16, .long ((wy).toInt64 - (y).toInt64)), (14, .long ((wx).toInt64 - (x).toInt64)), (12, .long ((fy).toInt64 - (y).toInt64)), (10, .long ((fx).toInt64 - (x).toInt64)), (8, .long ((ty).toInt64 - (y).toInt64)), (6, .long ((tx).toInt64 - (x).toInt64)), (5, .ref g), (0, .ref g), (1, .int x), (2, .int y), (3, .int wx), (4, .int wy)]) hx hb dX7_hasOnLeft_216 hl (by decide) rfl (fun ls hl => ?_)
              refine lv_iload hx hb dX7_hasOnLeft_218 (lv_at hl 0 rfl) ?_
              have J_16 : ∀ (v_15 : Int32) (ls : Array Slot), lv_has ls 23 [(22, .int v_11), (21, .int v_6), (20, .int v_3), (18, .long ((((tx).toInt64 - (x).toInt64) * ((fy).toInt64 - (y).toInt64)) - (((ty).toInt64 - (y).toInt64) * ((fx).toInt64 - (x).toInt64)))), (16, .long ((wy).toInt64 - (y).toInt64)), (14, .long ((wx).toInt64 - (x).toInt64)), (12, .long ((fy).toInt64 - (y).toInt64)), (10, .long ((fx).toInt64 - (x).toInt64)), (8, .long ((ty).toInt64 - (y).toInt64)), (6, .long ((tx).toInt64 - (x).toInt64)), (5, .ref g), (0, .ref g), (1, .int x), (2, .int y), (3, .int wx), (4, .int wy)] → v_15 = (if v_11 = 0 then 0 else (if v_3 = 0 then 0 else 1)) → W p l e R s m args below meth c s.heap [] (0) (0) Q (F0 m 233 ls [.int v_15]) := by
                intro v_15 ls hl ev_15
                have hv : v_15 = bI (sgLeft fx fy tx ty tx2 ty2 x y wx wy) := by
                  subst ev_15
                  subst ev_11
                  subst ev_6
                  subst ev_3
                  unfold sgLeft
                  simp only [bI_if, bI_t, bI_f]
                  all_goals rw [if_neg c_1, if_pos c_8, if_pos c_9]
                rw [hQ]
                exact h_zret hx hb hr hlk hsz hw (by simp) (by simp) dX7_hasOnLeft_233 (bI_v hv) ⟨congrArg (fun z => some (Value.int z)) hv, rfl⟩
              refine lv_if_eq (tgt := 232) hx hb dX7_hasOnLeft_220 (by decide) (fun c_13 => ?_) (fun c_13 => ?_)
              · skip
                refine lv_iconst (v := 0) hx hb dX7_hasOnLeft_232 (by decide) ?_
                exact J_16 0 ls (lv_sub hl [0, 1, 2, 3, 4, 5, 6, 7, 8, 9, 10, 11, 12, 13, 14, 15] rfl) (by rw [if_pos c_13])
              · skip
                refine lv_iload hx hb dX7_hasOnLeft_223 (lv_at hl 2 rfl) ?_
                refine lv_if_eq (tgt := 232) hx hb dX7_hasOnLeft_225 (by decide) (fun c_14 => ?_) (fun c_14 => ?_)
                · skip
                  refine lv_iconst (v := 0) hx hb dX7_hasOnLeft_232 (by decide) ?_
                  exact J_16 0 ls (lv_sub hl [0, 1, 2, 3, 4, 5, 6, 7, 8, 9, 10, 11, 12, 13, 14, 15] rfl) (by rw [if_neg c_13, if_pos c_14])
                · skip
                  refine lv_iconst (v := 1) hx hb dX7_hasOnLeft_228 (by decide) ?_
                  refine lv_goto (tgt := 233) hx hb dX7_hasOnLeft_229 (by decide) ?_
                  exact J_16 1 ls (lv_sub hl [0, 1, 2, 3, 4, 5, 6, 7, 8, 9, 10, 11, 12, 13, 14, 15] rfl) (by rw [if_neg c_13, if_neg c_14])
            refine lv_if_ge (tgt := 215) hx hb dX7_hasOnLeft_208 (by decide) (fun c_10 => ?_) (fun c_10 => ?_)
            · skip
              have c_10 : 0 ≤ ((((tx).toInt64 - (x).toInt64) * ((fx).toInt64 - (x).toInt64)) + (((ty).toInt64 - (y).toInt64) * ((fy).toInt64 - (y).toInt64))) := lgc_ge.mp c_10
              refine lv_iconst (v := 0) hx hb dX7_hasOnLeft_215 (by decide) ?_
              exact J_12 0 ls (lv_sub hl [0, 1, 2, 3, 4, 5, 6, 7, 8, 9, 10, 11, 12, 13, 14] rfl) (by rw [if_pos c_10])
            · skip
              have c_10 : ¬ (0 ≤ ((((tx).toInt64 - (x).toInt64) * ((fx).toInt64 - (x).toInt64)) + (((ty).toInt64 - (y).toInt64) * ((fy).toInt64 - (y).toInt64)))) := (not_congr lgc_ge).mp c_10
              refine lv_iconst (v := 1) hx hb dX7_hasOnLeft_211 (by decide) ?_
              refine lv_goto (tgt := 216) hx hb dX7_hasOnLeft_212 (by decide) ?_
              exact J_12 1 ls (lv_sub hl [0, 1, 2, 3, 4, 5, 6, 7, 8, 9, 10, 11, 12, 13, 14] rfl) (by rw [if_neg c_10])
          · skip
            have c_9 : ¬ (0 ≤ ((((tx).toInt64 - (x).toInt64) * ((fy).toInt64 - (y).toInt64)) - (((ty).toInt64 - (y).toInt64) * ((fx).toInt64 - (x).toInt64)))) := (not_congr lgc_ge).mp c_9
            refine lv_iload hx hb dX7_hasOnLeft_179 (lv_at hl 1 rfl) ?_
            have J_20 : ∀ (v_19 : Int32) (ls : Array Slot), lv_has ls 23 [(21, .int v_6), (20, .int v_3), (18, .long ((((tx).toInt64 - (x).toInt64) * ((fy).toInt64 - (y).toInt64)) - (((ty).toInt64 - (y).toInt64) * ((fx).toInt64 - (x).toInt64)))), (16, .long ((wy).toInt64 - (y).toInt64)), (14, .long ((wx).toInt64 - (x).toInt64)), (12, .long ((fy).toInt64 - (y).toInt64)), (10, .long ((fx).toInt64 - (x).toInt64)), (8, .long ((ty).toInt64 - (y).toInt64)), (6, .long ((tx).toInt64 - (x).toInt64)), (5, .ref g), (0, .ref g), (1, .int x), (2, .int y), (3, .int wx), (4, .int wy)] → v_19 = (if v_3 = 0 then (if v_6 = 0 then 0 else 1) else 1) → W p l e R s m args below meth c s.heap [] (0) (0) Q (F0 m 194 ls [.int v_19]) := by
              intro v_19 ls hl ev_19
              have hv : v_19 = bI (sgLeft fx fy tx ty tx2 ty2 x y wx wy) := by
                subst ev_19
                subst ev_6
                subst ev_3
                unfold sgLeft
                simp only [bI_if, bI_t, bI_f]
                all_goals rw [if_neg c_1, if_pos c_8, if_neg c_9]
              rw [hQ]
              exact h_zret hx hb hr hlk hsz hw (by simp) (by simp) dX7_hasOnLeft_194 (bI_v hv) ⟨congrArg (fun z => some (Value.int z)) hv, rfl⟩
            refine lv_if_ne (tgt := 189) hx hb dX7_hasOnLeft_181 (by decide) (fun c_17 => ?_) (fun c_17 => ?_)
            · skip
              refine lv_iconst (v := 1) hx hb dX7_hasOnLeft_189 (by decide) ?_
              refine lv_goto (tgt := 194) hx hb dX7_hasOnLeft_190 (by decide) ?_
              exact J_20 1 ls (lv_sub hl [0, 1, 2, 3, 4, 5, 6, 7, 8, 9, 10, 11, 12, 13, 14] rfl) (by rw [if_neg c_17])
            · skip
              refine lv_iload hx hb dX7_hasOnLeft_184 (lv_at hl 0 rfl) ?_
              refine lv_if_eq (tgt := 193) hx hb dX7_hasOnLeft_186 (by decide) (fun c_18 => ?_) (fun c_18 => ?_)
              · skip
                refine lv_iconst (v := 0) hx hb dX7_hasOnLeft_193 (by decide) ?_
                exact J_20 0 ls (lv_sub hl [0, 1, 2, 3, 4, 5, 6, 7, 8, 9, 10, 11, 12, 13, 14] rfl) (by rw [if_pos c_17, if_pos c_18])
              · skip
                refine lv_iconst (v := 1) hx hb dX7_hasOnLeft_189 (by decide) ?_
                refine lv_goto (tgt := 194) hx hb dX7_hasOnLeft_190 (by decide) ?_
                exact J_20 1 ls (lv_sub hl [0, 1, 2, 3, 4, 5, 6, 7, 8, 9, 10, 11, 12, 13, 14] rfl) (by rw [if_pos c_17, if_neg c_18])
        · skip
          have c_8 : ¬ (((((tx).toInt64 - (x).toInt64) * ((fy).toInt64 - (y).toInt64)) - (((ty).toInt64 - (y).toInt64) * ((fx).toInt64 - (x).toInt64))) ≤ 0) := (not_congr lgc_le).mp c_8
          refine lv_iload hx hb dX7_hasOnLeft_156 (lv_at hl 1 rfl) ?_
          have J_24 : ∀ (v_23 : Int32) (ls : Array Slot), lv_has ls 23 [(21, .int v_6), (20, .int v_3), (18, .long ((((tx).toInt64 - (x).toInt64) * ((fy).toInt64 - (y).toInt64)) - (((ty).toInt64 - (y).toInt64) * ((fx).toInt64 - (x).toInt64)))), (16, .long ((wy).toInt64 - (y).toInt64)), (14, .long ((wx).toInt64 - (x).toInt64)), (12, .long ((fy).toInt64 - (y).toInt64)), (10, .long ((fx).toInt64 - (x).toInt64)), (8, .long ((ty).toInt64 - (y).toInt64)), (6, .long ((tx).toInt64 - (x).toInt64)), (5, .ref g), (0, .ref g), (1, .int x), (2, .int y), (3, .int wx), (4, .int wy)] → v_23 = (if v_3 = 0 then 0 else (if v_6 = 0 then 0 else 1)) → W p l e R s m args below meth c s.heap [] (0) (0) Q (F0 m 171 ls [.int v_23]) := by
            intro v_23 ls hl ev_23
            have hv : v_23 = bI (sgLeft fx fy tx ty tx2 ty2 x y wx wy) := by
              subst ev_23
              subst ev_6
              subst ev_3
              unfold sgLeft
              simp only [bI_if, bI_t, bI_f]
              all_goals rw [if_neg c_1, if_neg c_8]
            rw [hQ]
            exact h_zret hx hb hr hlk hsz hw (by simp) (by simp) dX7_hasOnLeft_171 (bI_v hv) ⟨congrArg (fun z => some (Value.int z)) hv, rfl⟩
          refine lv_if_eq (tgt := 170) hx hb dX7_hasOnLeft_158 (by decide) (fun c_21 => ?_) (fun c_21 => ?_)
          · skip
            refine lv_iconst (v := 0) hx hb dX7_hasOnLeft_170 (by decide) ?_
            exact J_24 0 ls (lv_sub hl [0, 1, 2, 3, 4, 5, 6, 7, 8, 9, 10, 11, 12, 13, 14] rfl) (by rw [if_pos c_21])
          · skip
            refine lv_iload hx hb dX7_hasOnLeft_161 (lv_at hl 0 rfl) ?_
            refine lv_if_eq (tgt := 170) hx hb dX7_hasOnLeft_163 (by decide) (fun c_22 => ?_) (fun c_22 => ?_)
            · skip
              refine lv_iconst (v := 0) hx hb dX7_hasOnLeft_170 (by decide) ?_
              exact J_24 0 ls (lv_sub hl [0, 1, 2, 3, 4, 5, 6, 7, 8, 9, 10, 11, 12, 13, 14] rfl) (by rw [if_neg c_21, if_pos c_22])
            · skip
              refine lv_iconst (v := 1) hx hb dX7_hasOnLeft_166 (by decide) ?_
              refine lv_goto (tgt := 171) hx hb dX7_hasOnLeft_167 (by decide) ?_
              exact J_24 1 ls (lv_sub hl [0, 1, 2, 3, 4, 5, 6, 7, 8, 9, 10, 11, 12, 13, 14] rfl) (by rw [if_neg c_21, if_neg c_22])
      refine lv_if_le (tgt := 146) hx hb dX7_hasOnLeft_139 (by decide) (fun c_5 => ?_) (fun c_5 => ?_)
      · skip
        have c_5 : ((((wx).toInt64 - (x).toInt64) * ((fy).toInt64 - (y).toInt64)) - (((wy).toInt64 - (y).toInt64) * ((fx).toInt64 - (x).toInt64))) ≤ 0 := lgc_le.mp c_5
        refine lv_iconst (v := 0) hx hb dX7_hasOnLeft_146 (by decide) ?_
        exact J_7 0 ls (lv_sub hl [0, 1, 2, 3, 4, 5, 6, 7, 8, 9, 10, 11, 12, 13] rfl) (by rw [if_pos c_5])
      · skip
        have c_5 : ¬ (((((wx).toInt64 - (x).toInt64) * ((fy).toInt64 - (y).toInt64)) - (((wy).toInt64 - (y).toInt64) * ((fx).toInt64 - (x).toInt64))) ≤ 0) := (not_congr lgc_le).mp c_5
        refine lv_iconst (v := 1) hx hb dX7_hasOnLeft_142 (by decide) ?_
        refine lv_goto (tgt := 147) hx hb dX7_hasOnLeft_143 (by decide) ?_
        exact J_7 1 ls (lv_sub hl [0, 1, 2, 3, 4, 5, 6, 7, 8, 9, 10, 11, 12, 13] rfl) (by rw [if_neg c_5])
    refine lv_if_le (tgt := 123) hx hb dX7_hasOnLeft_116 (by decide) (fun c_2 => ?_) (fun c_2 => ?_)
    · skip
      have c_2 : ((((tx).toInt64 - (x).toInt64) * ((wy).toInt64 - (y).toInt64)) - (((ty).toInt64 - (y).toInt64) * ((wx).toInt64 - (x).toInt64))) ≤ 0 := lgc_le.mp c_2
      refine lv_iconst (v := 0) hx hb dX7_hasOnLeft_123 (by decide) ?_
      exact J_4 0 ls (lv_sub hl [0, 1, 2, 3, 4, 5, 6, 7, 8, 9, 10, 11, 12] rfl) (by rw [if_pos c_2])
    · skip
      have c_2 : ¬ (((((tx).toInt64 - (x).toInt64) * ((wy).toInt64 - (y).toInt64)) - (((ty).toInt64 - (y).toInt64) * ((wx).toInt64 - (x).toInt64))) ≤ 0) := (not_congr lgc_le).mp c_2
      refine lv_iconst (v := 1) hx hb dX7_hasOnLeft_119 (by decide) ?_
      refine lv_goto (tgt := 124) hx hb dX7_hasOnLeft_120 (by decide) ?_
      exact J_4 1 ls (lv_sub hl [0, 1, 2, 3, 4, 5, 6, 7, 8, 9, 10, 11, 12] rfl) (by rw [if_neg c_2])
  · skip
    refine lv_aload_n hx hb dX7_hasOnLeft_8 rfl (lv_at hl 0 rfl) ?_
    refine h_get (ci := 7) (v := .int ty) (C := RX7) (T := TX7) (N := 8) hx hb hts kl_X7 hown hK hw he rfl 5 (by decide) (hts _ kf_X7_26) rfl rfl dX7_hasOnLeft_9 ?_
    refine lv_iload_n hx hb dX7_hasOnLeft_12 rfl (lv_at hl 2 rfl) ?_
    refine lv_icmp_ne (tgt := 30) hx hb dX7_hasOnLeft_13 (by decide) (fun c_25 => ?_) (fun c_25 => ?_)
    · skip
      refine lv_aload_n hx hb dX7_hasOnLeft_30 rfl (lv_at hl 0 rfl) ?_
      refine lv_astore (lv' := [(5, .ref g), (0, .ref g), (1, .int x), (2, .int y), (3, .int wx), (4, .int wy)]) hx hb dX7_hasOnLeft_31 hl (by decide) rfl (fun ls hl => ?_)
      refine lv_aload hx hb dX7_hasOnLeft_33 (lv_at hl 0 rfl) ?_
      refine h_get (ci := 7) (v := .int tx) (C := RX7) (T := TX7) (N := 8) hx hb hts kl_X7 hown hK hw he rfl 4 (by decide) (hts _ kf_X7_23) rfl rfl dX7_hasOnLeft_35 ?_
      refine lv_i2l (v := (tx).toInt64) hx hb dX7_hasOnLeft_38 rfl ?_
      refine lv_iload_n hx hb dX7_hasOnLeft_39 rfl (lv_at hl 2 rfl) ?_
      refine lv_i2l (v := (x).toInt64) hx hb dX7_hasOnLeft_40 rfl ?_
      refine lv_lsub hx hb dX7_hasOnLeft_41 ?_
      refine lv_lstore (lv' := [(6, .long ((tx).toInt64 - (x).toInt64)), (5, .ref g), (0, .ref g), (1, .int x), (2, .int y), (3, .int wx), (4, .int wy)]) hx hb dX7_hasOnLeft_42 hl (by decide) rfl (fun ls hl => ?_)
      refine lv_aload hx hb dX7_hasOnLeft_44 (lv_at hl 1 rfl) ?_
      refine h_get (ci := 7) (v := .int ty) (C := RX7) (T := TX7) (N := 8) hx hb hts kl_X7 hown hK hw he rfl 5 (by decide) (hts _ kf_X7_26) rfl rfl dX7_hasOnLeft_46 ?_
      refine lv_i2l (v := (ty).toInt64) hx hb dX7_hasOnLeft_49 rfl ?_
      refine lv_iload_n hx hb dX7_hasOnLeft_50 rfl (lv_at hl 4 rfl) ?_
      refine lv_i2l (v := (y).toInt64) hx hb dX7_hasOnLeft_51 rfl ?_
      refine lv_lsub hx hb dX7_hasOnLeft_52 ?_
      refine lv_lstore (lv' := [(8, .long ((ty).toInt64 - (y).toInt64)), (6, .long ((tx).toInt64 - (x).toInt64)), (5, .ref g), (0, .ref g), (1, .int x), (2, .int y), (3, .int wx), (4, .int wy)]) hx hb dX7_hasOnLeft_53 hl (by decide) rfl (fun ls hl => ?_)
      refine lv_aload_n hx hb dX7_hasOnLeft_55 rfl (lv_at hl 3 rfl) ?_
      refine h_get (ci := 7) (v := .int fx) (C := RX7) (T := TX7) (N := 8) hx hb hts kl_X7 hown hK hw he rfl 2 (by decide) (hts _ kf_X7_17) rfl rfl dX7_hasOnLeft_56 ?_
      refine lv_i2l (v := (fx).toInt64) hx hb dX7_hasOnLeft_59 rfl ?_
      refine lv_iload_n hx hb dX7_hasOnLeft_60 rfl (lv_at hl 4 rfl) ?_
      refine lv_i2l (v := (x).toInt64) hx hb dX7_hasOnLeft_61 rfl ?_
      refine lv_lsub hx hb dX7_hasOnLeft_62 ?_
      refine lv_lstore (lv' := [(10, .long ((fx).toInt64 - (x).toInt64)), (8, .long ((ty).toInt64 - (y).toInt64)), (6, .long ((tx).toInt64 - (x).toInt64)), (5, .ref g), (0, .ref g), (1, .int x), (2, .int y), (3, .int wx), (4, .int wy)]) hx hb dX7_hasOnLeft_63 hl (by decide) rfl (fun ls hl => ?_)
      refine lv_aload_n hx hb dX7_hasOnLeft_65 rfl (lv_at hl 4 rfl) ?_
      refine h_get (ci := 7) (v := .int fy) (C := RX7) (T := TX7) (N := 8) hx hb hts kl_X7 hown hK hw he rfl 3 (by decide) (hts _ kf_X7_20) rfl rfl dX7_hasOnLeft_66 ?_
      refine lv_i2l (v := (fy).toInt64) hx hb dX7_hasOnLeft_69 rfl ?_
      refine lv_iload_n hx hb dX7_hasOnLeft_70 rfl (lv_at hl 6 rfl) ?_
      refine lv_i2l (v := (y).toInt64) hx hb dX7_hasOnLeft_71 rfl ?_
      refine lv_lsub hx hb dX7_hasOnLeft_72 ?_
      refine lv_lstore (lv' := [(12, .long ((fy).toInt64 - (y).toInt64)), (10, .long ((fx).toInt64 - (x).toInt64)), (8, .long ((ty).toInt64 - (y).toInt64)), (6, .long ((tx).toInt64 - (x).toInt64)), (5, .ref g), (0, .ref g), (1, .int x), (2, .int y), (3, .int wx), (4, .int wy)]) hx hb dX7_hasOnLeft_73 hl (by decide) rfl (fun ls hl => ?_)
      refine lv_iload_n hx hb dX7_hasOnLeft_75 rfl (lv_at hl 8 rfl) ?_
      refine lv_i2l (v := (wx).toInt64) hx hb dX7_hasOnLeft_76 rfl ?_
      refine lv_iload_n hx hb dX7_hasOnLeft_77 rfl (lv_at hl 6 rfl) ?_
      refine lv_i2l (v := (x).toInt64) hx hb dX7_hasOnLeft_78 rfl ?_
      refine lv_lsub hx hb dX7_hasOnLeft_79 ?_
      refine lv_lstore (lv' := [(14, .long ((wx).toInt64 - (x).toInt64)), (12, .long ((fy).toInt64 - (y).toInt64)), (10, .long ((fx).toInt64 - (x).toInt64)), (8, .long ((ty).toInt64 - (y).toInt64)), (6, .long ((tx).toInt64 - (x).toInt64)), (5, .ref g), (0, .ref g), (1, .int x), (2, .int y), (3, .int wx), (4, .int wy)]) hx hb dX7_hasOnLeft_80 hl (by decide) rfl (fun ls hl => ?_)
      refine lv_iload hx hb dX7_hasOnLeft_82 (lv_at hl 10 rfl) ?_
      refine lv_i2l (v := (wy).toInt64) hx hb dX7_hasOnLeft_84 rfl ?_
      refine lv_iload_n hx hb dX7_hasOnLeft_85 rfl (lv_at hl 8 rfl) ?_
      refine lv_i2l (v := (y).toInt64) hx hb dX7_hasOnLeft_86 rfl ?_
      refine lv_lsub hx hb dX7_hasOnLeft_87 ?_
      refine lv_lstore (lv' := [(16, .long ((wy).toInt64 - (y).toInt64)), (14, .long ((wx).toInt64 - (x).toInt64)), (12, .long ((fy).toInt64 - (y).toInt64)), (10, .long ((fx).toInt64 - (x).toInt64)), (8, .long ((ty).toInt64 - (y).toInt64)), (6, .long ((tx).toInt64 - (x).toInt64)), (5, .ref g), (0, .ref g), (1, .int x), (2, .int y), (3, .int wx), (4, .int wy)]) hx hb dX7_hasOnLeft_88 hl (by decide) rfl (fun ls hl => ?_)
      refine lv_lload hx hb dX7_hasOnLeft_90 (lv_at hl 5 rfl) ?_
      refine lv_lload hx hb dX7_hasOnLeft_92 (lv_at hl 2 rfl) ?_
      refine lv_lmul hx hb dX7_hasOnLeft_94 ?_
      refine lv_lload hx hb dX7_hasOnLeft_95 (lv_at hl 4 rfl) ?_
      refine lv_lload hx hb dX7_hasOnLeft_97 (lv_at hl 3 rfl) ?_
      refine lv_lmul hx hb dX7_hasOnLeft_99 ?_
      refine lv_lsub hx hb dX7_hasOnLeft_100 ?_
      refine lv_lstore (lv' := [(18, .long ((((tx).toInt64 - (x).toInt64) * ((fy).toInt64 - (y).toInt64)) - (((ty).toInt64 - (y).toInt64) * ((fx).toInt64 - (x).toInt64)))), (16, .long ((wy).toInt64 - (y).toInt64)), (14, .long ((wx).toInt64 - (x).toInt64)), (12, .long ((fy).toInt64 - (y).toInt64)), (10, .long ((fx).toInt64 - (x).toInt64)), (8, .long ((ty).toInt64 - (y).toInt64)), (6, .long ((tx).toInt64 - (x).toInt64)), (5, .ref g), (0, .ref g), (1, .int x), (2, .int y), (3, .int wx), (4, .int wy)]) hx hb dX7_hasOnLeft_101 hl (by decide) rfl (fun ls hl => ?_)
      refine lv_lload hx hb dX7_hasOnLeft_103 (lv_at hl 6 rfl) ?_
      refine lv_lload hx hb dX7_hasOnLeft_105 (lv_at hl 1 rfl) ?_
      refine lv_lmul hx hb dX7_hasOnLeft_107 ?_
      refine lv_lload hx hb dX7_hasOnLeft_108 (lv_at hl 5 rfl) ?_
      refine lv_lload hx hb dX7_hasOnLeft_110 (lv_at hl 2 rfl) ?_
      refine lv_lmul hx hb dX7_hasOnLeft_112 ?_
      refine lv_lsub hx hb dX7_hasOnLeft_113 ?_
      refine lv_lconst (v := 0) hx hb dX7_hasOnLeft_114 (by decide) ?_
      refine W.lcmp hx hb dX7_hasOnLeft_115 ?_
      have J_28 : ∀ (v_27 : Int32) (ls : Array Slot), lv_has ls 23 [(18, .long ((((tx).toInt64 - (x).toInt64) * ((fy).toInt64 - (y).toInt64)) - (((ty).toInt64 - (y).toInt64) * ((fx).toInt64 - (x).toInt64)))), (16, .long ((wy).toInt64 - (y).toInt64)), (14, .long ((wx).toInt64 - (x).toInt64)), (12, .long ((fy).toInt64 - (y).toInt64)), (10, .long ((fx).toInt64 - (x).toInt64)), (8, .long ((ty).toInt64 - (y).toInt64)), (6, .long ((tx).toInt64 - (x).toInt64)), (5, .ref g), (0, .ref g), (1, .int x), (2, .int y), (3, .int wx), (4, .int wy)] → v_27 = (if ((((tx).toInt64 - (x).toInt64) * ((wy).toInt64 - (y).toInt64)) - (((ty).toInt64 - (y).toInt64) * ((wx).toInt64 - (x).toInt64))) ≤ 0 then 0 else 1) → W p l e R s m args below meth c s.heap [] (0) (0) Q (F0 m 124 ls [.int v_27]) := by
        intro v_27 ls hl ev_27
        refine lv_istore (lv' := [(20, .int v_27), (18, .long ((((tx).toInt64 - (x).toInt64) * ((fy).toInt64 - (y).toInt64)) - (((ty).toInt64 - (y).toInt64) * ((fx).toInt64 - (x).toInt64)))), (16, .long ((wy).toInt64 - (y).toInt64)), (14, .long ((wx).toInt64 - (x).toInt64)), (12, .long ((fy).toInt64 - (y).toInt64)), (10, .long ((fx).toInt64 - (x).toInt64)), (8, .long ((ty).toInt64 - (y).toInt64)), (6, .long ((tx).toInt64 - (x).toInt64)), (5, .ref g), (0, .ref g), (1, .int x), (2, .int y), (3, .int wx), (4, .int wy)]) hx hb dX7_hasOnLeft_124 hl (by decide) rfl (fun ls hl => ?_)
        refine lv_lload hx hb dX7_hasOnLeft_126 (lv_at hl 3 rfl) ?_
        refine lv_lload hx hb dX7_hasOnLeft_128 (lv_at hl 4 rfl) ?_
        refine lv_lmul hx hb dX7_hasOnLeft_130 ?_
        refine lv_lload hx hb dX7_hasOnLeft_131 (lv_at hl 2 rfl) ?_
        refine lv_lload hx hb dX7_hasOnLeft_133 (lv_at hl 5 rfl) ?_
        refine lv_lmul hx hb dX7_hasOnLeft_135 ?_
        refine lv_lsub hx hb dX7_hasOnLeft_136 ?_
        refine lv_lconst (v := 0) hx hb dX7_hasOnLeft_137 (by decide) ?_
        refine W.lcmp hx hb dX7_hasOnLeft_138 ?_
        have J_31 : ∀ (v_30 : Int32) (ls : Array Slot), lv_has ls 23 [(20, .int v_27), (18, .long ((((tx).toInt64 - (x).toInt64) * ((fy).toInt64 - (y).toInt64)) - (((ty).toInt64 - (y).toInt64) * ((fx).toInt64 - (x).toInt64)))), (16, .long ((wy).toInt64 - (y).toInt64)), (14, .long ((wx).toInt64 - (x).toInt64)), (12, .long ((fy).toInt64 - (y).toInt64)), (10, .long ((fx).toInt64 - (x).toInt64)), (8, .long ((ty).toInt64 - (y).toInt64)), (6, .long ((tx).toInt64 - (x).toInt64)), (5, .ref g), (0, .ref g), (1, .int x), (2, .int y), (3, .int wx), (4, .int wy)] → v_30 = (if ((((wx).toInt64 - (x).toInt64) * ((fy).toInt64 - (y).toInt64)) - (((wy).toInt64 - (y).toInt64) * ((fx).toInt64 - (x).toInt64))) ≤ 0 then 0 else 1) → W p l e R s m args below meth c s.heap [] (0) (0) Q (F0 m 147 ls [.int v_30]) := by
          intro v_30 ls hl ev_30
          refine lv_istore (lv' := [(21, .int v_30), (20, .int v_27), (18, .long ((((tx).toInt64 - (x).toInt64) * ((fy).toInt64 - (y).toInt64)) - (((ty).toInt64 - (y).toInt64) * ((fx).toInt64 - (x).toInt64)))), (16, .long ((wy).toInt64 - (y).toInt64)), (14, .long ((wx).toInt64 - (x).toInt64)), (12, .long ((fy).toInt64 - (y).toInt64)), (10, .long ((fx).toInt64 - (x).toInt64)), (8, .long ((ty).toInt64 - (y).toInt64)), (6, .long ((tx).toInt64 - (x).toInt64)), (5, .ref g), (0, .ref g), (1, .int x), (2, .int y), (3, .int wx), (4, .int wy)]) hx hb dX7_hasOnLeft_147 hl (by decide) rfl (fun ls hl => ?_)
          refine lv_lload hx hb dX7_hasOnLeft_149 (lv_at hl 2 rfl) ?_
          refine lv_lconst (v := 0) hx hb dX7_hasOnLeft_151 (by decide) ?_
          refine W.lcmp hx hb dX7_hasOnLeft_152 ?_
          refine lv_if_le (tgt := 172) hx hb dX7_hasOnLeft_153 (by decide) (fun c_32 => ?_) (fun c_32 => ?_)
          · skip
            have c_32 : ((((tx).toInt64 - (x).toInt64) * ((fy).toInt64 - (y).toInt64)) - (((ty).toInt64 - (y).toInt64) * ((fx).toInt64 - (x).toInt64))) ≤ 0 := lgc_le.mp c_32
            refine lv_lload hx hb dX7_hasOnLeft_172 (lv_at hl 2 rfl) ?_
            refine lv_lconst (v := 0) hx hb dX7_hasOnLeft_174 (by decide) ?_
            refine W.lcmp hx hb dX7_hasOnLeft_175 ?_
            refine lv_if_ge (tgt := 195) hx hb dX7_hasOnLeft_176 (by decide) (fun c_33 => ?_) (fun c_33 => ?_)
            · skip
              have c_33 : 0 ≤ ((((tx).toInt64 - (x).toInt64) * ((fy).toInt64 - (y).toInt64)) - (((ty).toInt64 - (y).toInt64) * ((fx).toInt64 - (x).toInt64))) := lgc_ge.mp c_33
              refine lv_lload hx hb dX7_hasOnLeft_195 (lv_at hl 8 rfl) ?_
              refine lv_lload hx hb dX7_hasOnLeft_197 (lv_at hl 6 rfl) ?_
              refine lv_lmul hx hb dX7_hasOnLeft_199 ?_
              refine lv_lload hx hb dX7_hasOnLeft_200 (lv_at hl 7 rfl) ?_
              refine lv_lload hx hb dX7_hasOnLeft_202 (lv_at hl 5 rfl) ?_
              refine lv_lmul hx hb dX7_hasOnLeft_204 ?_
              refine lv_ladd hx hb dX7_hasOnLeft_205 ?_
              refine lv_lconst (v := 0) hx hb dX7_hasOnLeft_206 (by decide) ?_
              refine W.lcmp hx hb dX7_hasOnLeft_207 ?_
              have J_36 : ∀ (v_35 : Int32) (ls : Array Slot), lv_has ls 23 [(21, .int v_30), (20, .int v_27), (18, .long ((((tx).toInt64 - (x).toInt64) * ((fy).toInt64 - (y).toInt64)) - (((ty).toInt64 - (y).toInt64) * ((fx).toInt64 - (x).toInt64)))), (16, .long ((wy).toInt64 - (y).toInt64)), (14, .long ((wx).toInt64 - (x).toInt64)), (12, .long ((fy).toInt64 - (y).toInt64)), (10, .long ((fx).toInt64 - (x).toInt64)), (8, .long ((ty).toInt64 - (y).toInt64)), (6, .long ((tx).toInt64 - (x).toInt64)), (5, .ref g), (0, .ref g), (1, .int x), (2, .int y), (3, .int wx), (4, .int wy)] → v_35 = (if 0 ≤ ((((tx).toInt64 - (x).toInt64) * ((fx).toInt64 - (x).toInt64)) + (((ty).toInt64 - (y).toInt64) * ((fy).toInt64 - (y).toInt64))) then 0 else 1) → W p l e R s m args below meth c s.heap [] (0) (0) Q (F0 m 216 ls [.int v_35]) := by
                intro v_35 ls hl ev_35
                refine lv_istore (lv' := [(22, .int v_35), (21, .int v_30), (20, .int v_27), (18, .long ((((tx).toInt64 - (x).toInt64) * ((fy).toInt64 - (y).toInt64)) - (((ty).toInt64 - (y).toInt64) * ((fx).toInt64 - (x).toInt64)))), (16, .long ((wy).toInt64 - (y).toInt64)), (14, .long ((wx).toInt64 - (x).toInt64)), (12, .long ((fy).toInt64 - (y).toInt64)), (10, .long ((fx).toInt64 - (x).toInt64)), (8, .long ((ty).toInt64 - (y).toInt64)), (6, .long ((tx).toInt64 - (x).toInt64)), (5, .ref g), (0, .ref g), (1, .int x), (2, .int y), (3, .int wx), (4, .int wy)]) hx hb dX7_hasOnLeft_216 hl (by decide) rfl (fun ls hl => ?_)
                refine lv_iload hx hb dX7_hasOnLeft_218 (lv_at hl 0 rfl) ?_
                have J_40 : ∀ (v_39 : Int32) (ls : Array Slot), lv_has ls 23 [(22, .int v_35), (21, .int v_30), (20, .int v_27), (18, .long ((((tx).toInt64 - (x).toInt64) * ((fy).toInt64 - (y).toInt64)) - (((ty).toInt64 - (y).toInt64) * ((fx).toInt64 - (x).toInt64)))), (16, .long ((wy).toInt64 - (y).toInt64)), (14, .long ((wx).toInt64 - (x).toInt64)), (12, .long ((fy).toInt64 - (y).toInt64)), (10, .long ((fx).toInt64 - (x).toInt64)), (8, .long ((ty).toInt64 - (y).toInt64)), (6, .long ((tx).toInt64 - (x).toInt64)), (5, .ref g), (0, .ref g), (1, .int x), (2, .int y), (3, .int wx), (4, .int wy)] → v_39 = (if v_35 = 0 then 0 else (if v_27 = 0 then 0 else 1)) → W p l e R s m args below meth c s.heap [] (0) (0) Q (F0 m 233 ls [.int v_39]) := by
                  intro v_39 ls hl ev_39
                  have hv : v_39 = bI (sgLeft fx fy tx ty tx2 ty2 x y wx wy) := by
                    subst ev_39
                    subst ev_35
                    subst ev_30
                    subst ev_27
                    unfold sgLeft
                    simp only [bI_if, bI_t, bI_f]
                    all_goals rw [if_pos c_1, if_neg c_25, if_pos c_32, if_pos c_33]
                  rw [hQ]
                  exact h_zret hx hb hr hlk hsz hw (by simp) (by simp) dX7_hasOnLeft_233 (bI_v hv) ⟨congrArg (fun z => some (Value.int z)) hv, rfl⟩
                refine lv_if_eq (tgt := 232) hx hb dX7_hasOnLeft_220 (by decide) (fun c_37 => ?_) (fun c_37 => ?_)
                · skip
                  refine lv_iconst (v := 0) hx hb dX7_hasOnLeft_232 (by decide) ?_
                  exact J_40 0 ls (lv_sub hl [0, 1, 2, 3, 4, 5, 6, 7, 8, 9, 10, 11, 12, 13, 14, 15] rfl) (by rw [if_pos c_37])
                · skip
                  refine lv_iload hx hb dX7_hasOnLeft_223 (lv_at hl 2 rfl) ?_
                  refine lv_if_eq (tgt := 232) hx hb dX7_hasOnLeft_225 (by decide) (fun c_38 => ?_) (fun c_38 => ?_)
                  · skip
                    refine lv_iconst (v := 0) hx hb dX7_hasOnLeft_232 (by decide) ?_
                    exact J_40 0 ls (lv_sub hl [0, 1, 2, 3, 4, 5, 6, 7, 8, 9, 10, 11, 12, 13, 14, 15] rfl) (by rw [if_neg c_37, if_pos c_38])
                  · skip
                    refine lv_iconst (v := 1) hx hb dX7_hasOnLeft_228 (by decide) ?_
                    refine lv_goto (tgt := 233) hx hb dX7_hasOnLeft_229 (by decide) ?_
                    exact J_40 1 ls (lv_sub hl [0, 1, 2, 3, 4, 5, 6, 7, 8, 9, 10, 11, 12, 13, 14, 15] rfl) (by rw [if_neg c_37, if_neg c_38])
              refine lv_if_ge (tgt := 215) hx hb dX7_hasOnLeft_208 (by decide) (fun c_34 => ?_) (fun c_34 => ?_)
              · skip
                have c_34 : 0 ≤ ((((tx).toInt64 - (x).toInt64) * ((fx).toInt64 - (x).toInt64)) + (((ty).toInt64 - (y).toInt64) * ((fy).toInt64 - (y).toInt64))) := lgc_ge.mp c_34
                refine lv_iconst (v := 0) hx hb dX7_hasOnLeft_215 (by decide) ?_
                exact J_36 0 ls (lv_sub hl [0, 1, 2, 3, 4, 5, 6, 7, 8, 9, 10, 11, 12, 13, 14] rfl) (by rw [if_pos c_34])
              · skip
                have c_34 : ¬ (0 ≤ ((((tx).toInt64 - (x).toInt64) * ((fx).toInt64 - (x).toInt64)) + (((ty).toInt64 - (y).toInt64) * ((fy).toInt64 - (y).toInt64)))) := (not_congr lgc_ge).mp c_34
                refine lv_iconst (v := 1) hx hb dX7_hasOnLeft_211 (by decide) ?_
                refine lv_goto (tgt := 216) hx hb dX7_hasOnLeft_212 (by decide) ?_
                exact J_36 1 ls (lv_sub hl [0, 1, 2, 3, 4, 5, 6, 7, 8, 9, 10, 11, 12, 13, 14] rfl) (by rw [if_neg c_34])
            · skip
              have c_33 : ¬ (0 ≤ ((((tx).toInt64 - (x).toInt64) * ((fy).toInt64 - (y).toInt64)) - (((ty).toInt64 - (y).toInt64) * ((fx).toInt64 - (x).toInt64)))) := (not_congr lgc_ge).mp c_33
              refine lv_iload hx hb dX7_hasOnLeft_179 (lv_at hl 1 rfl) ?_
              have J_44 : ∀ (v_43 : Int32) (ls : Array Slot), lv_has ls 23 [(21, .int v_30), (20, .int v_27), (18, .long ((((tx).toInt64 - (x).toInt64) * ((fy).toInt64 - (y).toInt64)) - (((ty).toInt64 - (y).toInt64) * ((fx).toInt64 - (x).toInt64)))), (16, .long ((wy).toInt64 - (y).toInt64)), (14, .long ((wx).toInt64 - (x).toInt64)), (12, .long ((fy).toInt64 - (y).toInt64)), (10, .long ((fx).toInt64 - (x).toInt64)), (8, .long ((ty).toInt64 - (y).toInt64)), (6, .long ((tx).toInt64 - (x).toInt64)), (5, .ref g), (0, .ref g), (1, .int x), (2, .int y), (3, .int wx), (4, .int wy)] → v_43 = (if v_27 = 0 then (if v_30 = 0 then 0 else 1) else 1) → W p l e R s m args below meth c s.heap [] (0) (0) Q (F0 m 194 ls [.int v_43]) := by
                intro v_43 ls hl ev_43
                have hv : v_43 = bI (sgLeft fx fy tx ty tx2 ty2 x y wx wy) := by
                  subst ev_43
                  subst ev_30
                  subst ev_27
                  unfold sgLeft
                  simp only [bI_if, bI_t, bI_f]
                  all_goals rw [if_pos c_1, if_neg c_25, if_pos c_32, if_neg c_33]
                rw [hQ]
                exact h_zret hx hb hr hlk hsz hw (by simp) (by simp) dX7_hasOnLeft_194 (bI_v hv) ⟨congrArg (fun z => some (Value.int z)) hv, rfl⟩
              refine lv_if_ne (tgt := 189) hx hb dX7_hasOnLeft_181 (by decide) (fun c_41 => ?_) (fun c_41 => ?_)
              · skip
                refine lv_iconst (v := 1) hx hb dX7_hasOnLeft_189 (by decide) ?_
                refine lv_goto (tgt := 194) hx hb dX7_hasOnLeft_190 (by decide) ?_
                exact J_44 1 ls (lv_sub hl [0, 1, 2, 3, 4, 5, 6, 7, 8, 9, 10, 11, 12, 13, 14] rfl) (by rw [if_neg c_41])
              · skip
                refine lv_iload hx hb dX7_hasOnLeft_184 (lv_at hl 0 rfl) ?_
                refine lv_if_eq (tgt := 193) hx hb dX7_hasOnLeft_186 (by decide) (fun c_42 => ?_) (fun c_42 => ?_)
                · skip
                  refine lv_iconst (v := 0) hx hb dX7_hasOnLeft_193 (by decide) ?_
                  exact J_44 0 ls (lv_sub hl [0, 1, 2, 3, 4, 5, 6, 7, 8, 9, 10, 11, 12, 13, 14] rfl) (by rw [if_pos c_41, if_pos c_42])
                · skip
                  refine lv_iconst (v := 1) hx hb dX7_hasOnLeft_189 (by decide) ?_
                  refine lv_goto (tgt := 194) hx hb dX7_hasOnLeft_190 (by decide) ?_
                  exact J_44 1 ls (lv_sub hl [0, 1, 2, 3, 4, 5, 6, 7, 8, 9, 10, 11, 12, 13, 14] rfl) (by rw [if_pos c_41, if_neg c_42])
          · skip
            have c_32 : ¬ (((((tx).toInt64 - (x).toInt64) * ((fy).toInt64 - (y).toInt64)) - (((ty).toInt64 - (y).toInt64) * ((fx).toInt64 - (x).toInt64))) ≤ 0) := (not_congr lgc_le).mp c_32
            refine lv_iload hx hb dX7_hasOnLeft_156 (lv_at hl 1 rfl) ?_
            have J_48 : ∀ (v_47 : Int32) (ls : Array Slot), lv_has ls 23 [(21, .int v_30), (20, .int v_27), (18, .long ((((tx).toInt64 - (x).toInt64) * ((fy).toInt64 - (y).toInt64)) - (((ty).toInt64 - (y).toInt64) * ((fx).toInt64 - (x).toInt64)))), (16, .long ((wy).toInt64 - (y).toInt64)), (14, .long ((wx).toInt64 - (x).toInt64)), (12, .long ((fy).toInt64 - (y).toInt64)), (10, .long ((fx).toInt64 - (x).toInt64)), (8, .long ((ty).toInt64 - (y).toInt64)), (6, .long ((tx).toInt64 - (x).toInt64)), (5, .ref g), (0, .ref g), (1, .int x), (2, .int y), (3, .int wx), (4, .int wy)] → v_47 = (if v_27 = 0 then 0 else (if v_30 = 0 then 0 else 1)) → W p l e R s m args below meth c s.heap [] (0) (0) Q (F0 m 171 ls [.int v_47]) := by
              intro v_47 ls hl ev_47
              have hv : v_47 = bI (sgLeft fx fy tx ty tx2 ty2 x y wx wy) := by
                subst ev_47
                subst ev_30
                subst ev_27
                unfold sgLeft
                simp only [bI_if, bI_t, bI_f]
                all_goals rw [if_pos c_1, if_neg c_25, if_neg c_32]
              rw [hQ]
              exact h_zret hx hb hr hlk hsz hw (by simp) (by simp) dX7_hasOnLeft_171 (bI_v hv) ⟨congrArg (fun z => some (Value.int z)) hv, rfl⟩
            refine lv_if_eq (tgt := 170) hx hb dX7_hasOnLeft_158 (by decide) (fun c_45 => ?_) (fun c_45 => ?_)
            · skip
              refine lv_iconst (v := 0) hx hb dX7_hasOnLeft_170 (by decide) ?_
              exact J_48 0 ls (lv_sub hl [0, 1, 2, 3, 4, 5, 6, 7, 8, 9, 10, 11, 12, 13, 14] rfl) (by rw [if_pos c_45])
            · skip
              refine lv_iload hx hb dX7_hasOnLeft_161 (lv_at hl 0 rfl) ?_
              refine lv_if_eq (tgt := 170) hx hb dX7_hasOnLeft_163 (by decide) (fun c_46 => ?_) (fun c_46 => ?_)
              · skip
                refine lv_iconst (v := 0) hx hb dX7_hasOnLeft_170 (by decide) ?_
                exact J_48 0 ls (lv_sub hl [0, 1, 2, 3, 4, 5, 6, 7, 8, 9, 10, 11, 12, 13, 14] rfl) (by rw [if_neg c_45, if_pos c_46])
              · skip
                refine lv_iconst (v := 1) hx hb dX7_hasOnLeft_166 (by decide) ?_
                refine lv_goto (tgt := 171) hx hb dX7_hasOnLeft_167 (by decide) ?_
                exact J_48 1 ls (lv_sub hl [0, 1, 2, 3, 4, 5, 6, 7, 8, 9, 10, 11, 12, 13, 14] rfl) (by rw [if_neg c_45, if_neg c_46])
        refine lv_if_le (tgt := 146) hx hb dX7_hasOnLeft_139 (by decide) (fun c_29 => ?_) (fun c_29 => ?_)
        · skip
          have c_29 : ((((wx).toInt64 - (x).toInt64) * ((fy).toInt64 - (y).toInt64)) - (((wy).toInt64 - (y).toInt64) * ((fx).toInt64 - (x).toInt64))) ≤ 0 := lgc_le.mp c_29
          refine lv_iconst (v := 0) hx hb dX7_hasOnLeft_146 (by decide) ?_
          exact J_31 0 ls (lv_sub hl [0, 1, 2, 3, 4, 5, 6, 7, 8, 9, 10, 11, 12, 13] rfl) (by rw [if_pos c_29])
        · skip
          have c_29 : ¬ (((((wx).toInt64 - (x).toInt64) * ((fy).toInt64 - (y).toInt64)) - (((wy).toInt64 - (y).toInt64) * ((fx).toInt64 - (x).toInt64))) ≤ 0) := (not_congr lgc_le).mp c_29
          refine lv_iconst (v := 1) hx hb dX7_hasOnLeft_142 (by decide) ?_
          refine lv_goto (tgt := 147) hx hb dX7_hasOnLeft_143 (by decide) ?_
          exact J_31 1 ls (lv_sub hl [0, 1, 2, 3, 4, 5, 6, 7, 8, 9, 10, 11, 12, 13] rfl) (by rw [if_neg c_29])
      refine lv_if_le (tgt := 123) hx hb dX7_hasOnLeft_116 (by decide) (fun c_26 => ?_) (fun c_26 => ?_)
      · skip
        have c_26 : ((((tx).toInt64 - (x).toInt64) * ((wy).toInt64 - (y).toInt64)) - (((ty).toInt64 - (y).toInt64) * ((wx).toInt64 - (x).toInt64))) ≤ 0 := lgc_le.mp c_26
        refine lv_iconst (v := 0) hx hb dX7_hasOnLeft_123 (by decide) ?_
        exact J_28 0 ls (lv_sub hl [0, 1, 2, 3, 4, 5, 6, 7, 8, 9, 10, 11, 12] rfl) (by rw [if_pos c_26])
      · skip
        have c_26 : ¬ (((((tx).toInt64 - (x).toInt64) * ((wy).toInt64 - (y).toInt64)) - (((ty).toInt64 - (y).toInt64) * ((wx).toInt64 - (x).toInt64))) ≤ 0) := (not_congr lgc_le).mp c_26
        refine lv_iconst (v := 1) hx hb dX7_hasOnLeft_119 (by decide) ?_
        refine lv_goto (tgt := 124) hx hb dX7_hasOnLeft_120 (by decide) ?_
        exact J_28 1 ls (lv_sub hl [0, 1, 2, 3, 4, 5, 6, 7, 8, 9, 10, 11, 12] rfl) (by rw [if_neg c_26])
    · skip
      refine lv_aload_n hx hb dX7_hasOnLeft_16 rfl (lv_at hl 0 rfl) ?_
      refine h_get (ci := 7) (v := .ref nx) (C := RX7) (T := TX7) (N := 8) hx hb hts kl_X7 hown hK hw he rfl 7 (by decide) (hts _ kf_X7_40) rfl rfl dX7_hasOnLeft_17 ?_
      refine lv_ifnull hx hb dX7_hasOnLeft_20 ?_
      refine lv_aload_n hx hb dX7_hasOnLeft_23 rfl (lv_at hl 0 rfl) ?_
      refine h_get (ci := 7) (v := .ref nx) (C := RX7) (T := TX7) (N := 8) hx hb hts kl_X7 hown hK hw he rfl 7 (by decide) (hts _ kf_X7_40) rfl rfl dX7_hasOnLeft_24 ?_
      refine lv_goto (tgt := 31) hx hb dX7_hasOnLeft_27 (by decide) ?_
      refine lv_astore (lv' := [(5, .ref nx), (0, .ref g), (1, .int x), (2, .int y), (3, .int wx), (4, .int wy)]) hx hb dX7_hasOnLeft_31 hl (by decide) rfl (fun ls hl => ?_)
      refine lv_aload hx hb dX7_hasOnLeft_33 (lv_at hl 0 rfl) ?_
      refine h_get (ci := 7) (v := .int tx2) (C := RX7) (T := TX7) (N := 8) hx hb hts kl_X7 hown hK hw he2 rfl 4 (by decide) (hts _ kf_X7_23) rfl rfl dX7_hasOnLeft_35 ?_
      refine lv_i2l (v := (tx2).toInt64) hx hb dX7_hasOnLeft_38 rfl ?_
      refine lv_iload_n hx hb dX7_hasOnLeft_39 rfl (lv_at hl 2 rfl) ?_
      refine lv_i2l (v := (x).toInt64) hx hb dX7_hasOnLeft_40 rfl ?_
      refine lv_lsub hx hb dX7_hasOnLeft_41 ?_
      refine lv_lstore (lv' := [(6, .long ((tx2).toInt64 - (x).toInt64)), (5, .ref nx), (0, .ref g), (1, .int x), (2, .int y), (3, .int wx), (4, .int wy)]) hx hb dX7_hasOnLeft_42 hl (by decide) rfl (fun ls hl => ?_)
      refine lv_aload hx hb dX7_hasOnLeft_44 (lv_at hl 1 rfl) ?_
      refine h_get (ci := 7) (v := .int ty2) (C := RX7) (T := TX7) (N := 8) hx hb hts kl_X7 hown hK hw he2 rfl 5 (by decide) (hts _ kf_X7_26) rfl rfl dX7_hasOnLeft_46 ?_
      refine lv_i2l (v := (ty2).toInt64) hx hb dX7_hasOnLeft_49 rfl ?_
      refine lv_iload_n hx hb dX7_hasOnLeft_50 rfl (lv_at hl 4 rfl) ?_
      refine lv_i2l (v := (y).toInt64) hx hb dX7_hasOnLeft_51 rfl ?_
      refine lv_lsub hx hb dX7_hasOnLeft_52 ?_
      refine lv_lstore (lv' := [(8, .long ((ty2).toInt64 - (y).toInt64)), (6, .long ((tx2).toInt64 - (x).toInt64)), (5, .ref nx), (0, .ref g), (1, .int x), (2, .int y), (3, .int wx), (4, .int wy)]) hx hb dX7_hasOnLeft_53 hl (by decide) rfl (fun ls hl => ?_)
      refine lv_aload_n hx hb dX7_hasOnLeft_55 rfl (lv_at hl 3 rfl) ?_
      refine h_get (ci := 7) (v := .int fx) (C := RX7) (T := TX7) (N := 8) hx hb hts kl_X7 hown hK hw he rfl 2 (by decide) (hts _ kf_X7_17) rfl rfl dX7_hasOnLeft_56 ?_
      refine lv_i2l (v := (fx).toInt64) hx hb dX7_hasOnLeft_59 rfl ?_
      refine lv_iload_n hx hb dX7_hasOnLeft_60 rfl (lv_at hl 4 rfl) ?_
      refine lv_i2l (v := (x).toInt64) hx hb dX7_hasOnLeft_61 rfl ?_
      refine lv_lsub hx hb dX7_hasOnLeft_62 ?_
      refine lv_lstore (lv' := [(10, .long ((fx).toInt64 - (x).toInt64)), (8, .long ((ty2).toInt64 - (y).toInt64)), (6, .long ((tx2).toInt64 - (x).toInt64)), (5, .ref nx), (0, .ref g), (1, .int x), (2, .int y), (3, .int wx), (4, .int wy)]) hx hb dX7_hasOnLeft_63 hl (by decide) rfl (fun ls hl => ?_)
      refine lv_aload_n hx hb dX7_hasOnLeft_65 rfl (lv_at hl 4 rfl) ?_
      refine h_get (ci := 7) (v := .int fy) (C := RX7) (T := TX7) (N := 8) hx hb hts kl_X7 hown hK hw he rfl 3 (by decide) (hts _ kf_X7_20) rfl rfl dX7_hasOnLeft_66 ?_
      refine lv_i2l (v := (fy).toInt64) hx hb dX7_hasOnLeft_69 rfl ?_
      refine lv_iload_n hx hb dX7_hasOnLeft_70 rfl (lv_at hl 6 rfl) ?_
      refine lv_i2l (v := (y).toInt64) hx hb dX7_hasOnLeft_71 rfl ?_
      refine lv_lsub hx hb dX7_hasOnLeft_72 ?_
      refine lv_lstore (lv' := [(12, .long ((fy).toInt64 - (y).toInt64)), (10, .long ((fx).toInt64 - (x).toInt64)), (8, .long ((ty2).toInt64 - (y).toInt64)), (6, .long ((tx2).toInt64 - (x).toInt64)), (5, .ref nx), (0, .ref g), (1, .int x), (2, .int y), (3, .int wx), (4, .int wy)]) hx hb dX7_hasOnLeft_73 hl (by decide) rfl (fun ls hl => ?_)
      refine lv_iload_n hx hb dX7_hasOnLeft_75 rfl (lv_at hl 8 rfl) ?_
      refine lv_i2l (v := (wx).toInt64) hx hb dX7_hasOnLeft_76 rfl ?_
      refine lv_iload_n hx hb dX7_hasOnLeft_77 rfl (lv_at hl 6 rfl) ?_
      refine lv_i2l (v := (x).toInt64) hx hb dX7_hasOnLeft_78 rfl ?_
      refine lv_lsub hx hb dX7_hasOnLeft_79 ?_
      refine lv_lstore (lv' := [(14, .long ((wx).toInt64 - (x).toInt64)), (12, .long ((fy).toInt64 - (y).toInt64)), (10, .long ((fx).toInt64 - (x).toInt64)), (8, .long ((ty2).toInt64 - (y).toInt64)), (6, .long ((tx2).toInt64 - (x).toInt64)), (5, .ref nx), (0, .ref g), (1, .int x), (2, .int y), (3, .int wx), (4, .int wy)]) hx hb dX7_hasOnLeft_80 hl (by decide) rfl (fun ls hl => ?_)
      refine lv_iload hx hb dX7_hasOnLeft_82 (lv_at hl 10 rfl) ?_
      refine lv_i2l (v := (wy).toInt64) hx hb dX7_hasOnLeft_84 rfl ?_
      refine lv_iload_n hx hb dX7_hasOnLeft_85 rfl (lv_at hl 8 rfl) ?_
      refine lv_i2l (v := (y).toInt64) hx hb dX7_hasOnLeft_86 rfl ?_
      refine lv_lsub hx hb dX7_hasOnLeft_87 ?_
      refine lv_lstore (lv' := [(16, .long ((wy).toInt64 - (y).toInt64)), (14, .long ((wx).toInt64 - (x).toInt64)), (12, .long ((fy).toInt64 - (y).toInt64)), (10, .long ((fx).toInt64 - (x).toInt64)), (8, .long ((ty2).toInt64 - (y).toInt64)), (6, .long ((tx2).toInt64 - (x).toInt64)), (5, .ref nx), (0, .ref g), (1, .int x), (2, .int y), (3, .int wx), (4, .int wy)]) hx hb dX7_hasOnLeft_88 hl (by decide) rfl (fun ls hl => ?_)
      refine lv_lload hx hb dX7_hasOnLeft_90 (lv_at hl 5 rfl) ?_
      refine lv_lload hx hb dX7_hasOnLeft_92 (lv_at hl 2 rfl) ?_
      refine lv_lmul hx hb dX7_hasOnLeft_94 ?_
      refine lv_lload hx hb dX7_hasOnLeft_95 (lv_at hl 4 rfl) ?_
      refine lv_lload hx hb dX7_hasOnLeft_97 (lv_at hl 3 rfl) ?_
      refine lv_lmul hx hb dX7_hasOnLeft_99 ?_
      refine lv_lsub hx hb dX7_hasOnLeft_100 ?_
      refine lv_lstore (lv' := [(18, .long ((((tx2).toInt64 - (x).toInt64) * ((fy).toInt64 - (y).toInt64)) - (((ty2).toInt64 - (y).toInt64) * ((fx).toInt64 - (x).toInt64)))), (16, .long ((wy).toInt64 - (y).toInt64)), (14, .long ((wx).toInt64 - (x).toInt64)), (12, .long ((fy).toInt64 - (y).toInt64)), (10, .long ((fx).toInt64 - (x).toInt64)), (8, .long ((ty2).toInt64 - (y).toInt64)), (6, .long ((tx2).toInt64 - (x).toInt64)), (5, .ref nx), (0, .ref g), (1, .int x), (2, .int y), (3, .int wx), (4, .int wy)]) hx hb dX7_hasOnLeft_101 hl (by decide) rfl (fun ls hl => ?_)
      refine lv_lload hx hb dX7_hasOnLeft_103 (lv_at hl 6 rfl) ?_
      refine lv_lload hx hb dX7_hasOnLeft_105 (lv_at hl 1 rfl) ?_
      refine lv_lmul hx hb dX7_hasOnLeft_107 ?_
      refine lv_lload hx hb dX7_hasOnLeft_108 (lv_at hl 5 rfl) ?_
      refine lv_lload hx hb dX7_hasOnLeft_110 (lv_at hl 2 rfl) ?_
      refine lv_lmul hx hb dX7_hasOnLeft_112 ?_
      refine lv_lsub hx hb dX7_hasOnLeft_113 ?_
      refine lv_lconst (v := 0) hx hb dX7_hasOnLeft_114 (by decide) ?_
      refine W.lcmp hx hb dX7_hasOnLeft_115 ?_
      have J_51 : ∀ (v_50 : Int32) (ls : Array Slot), lv_has ls 23 [(18, .long ((((tx2).toInt64 - (x).toInt64) * ((fy).toInt64 - (y).toInt64)) - (((ty2).toInt64 - (y).toInt64) * ((fx).toInt64 - (x).toInt64)))), (16, .long ((wy).toInt64 - (y).toInt64)), (14, .long ((wx).toInt64 - (x).toInt64)), (12, .long ((fy).toInt64 - (y).toInt64)), (10, .long ((fx).toInt64 - (x).toInt64)), (8, .long ((ty2).toInt64 - (y).toInt64)), (6, .long ((tx2).toInt64 - (x).toInt64)), (5, .ref nx), (0, .ref g), (1, .int x), (2, .int y), (3, .int wx), (4, .int wy)] → v_50 = (if ((((tx2).toInt64 - (x).toInt64) * ((wy).toInt64 - (y).toInt64)) - (((ty2).toInt64 - (y).toInt64) * ((wx).toInt64 - (x).toInt64))) ≤ 0 then 0 else 1) → W p l e R s m args below meth c s.heap [] (0) (0) Q (F0 m 124 ls [.int v_50]) := by
        intro v_50 ls hl ev_50
        refine lv_istore (lv' := [(20, .int v_50), (18, .long ((((tx2).toInt64 - (x).toInt64) * ((fy).toInt64 - (y).toInt64)) - (((ty2).toInt64 - (y).toInt64) * ((fx).toInt64 - (x).toInt64)))), (16, .long ((wy).toInt64 - (y).toInt64)), (14, .long ((wx).toInt64 - (x).toInt64)), (12, .long ((fy).toInt64 - (y).toInt64)), (10, .long ((fx).toInt64 - (x).toInt64)), (8, .long ((ty2).toInt64 - (y).toInt64)), (6, .long ((tx2).toInt64 - (x).toInt64)), (5, .ref nx), (0, .ref g), (1, .int x), (2, .int y), (3, .int wx), (4, .int wy)]) hx hb dX7_hasOnLeft_124 hl (by decide) rfl (fun ls hl => ?_)
        refine lv_lload hx hb dX7_hasOnLeft_126 (lv_at hl 3 rfl) ?_
        refine lv_lload hx hb dX7_hasOnLeft_128 (lv_at hl 4 rfl) ?_
        refine lv_lmul hx hb dX7_hasOnLeft_130 ?_
        refine lv_lload hx hb dX7_hasOnLeft_131 (lv_at hl 2 rfl) ?_
        refine lv_lload hx hb dX7_hasOnLeft_133 (lv_at hl 5 rfl) ?_
        refine lv_lmul hx hb dX7_hasOnLeft_135 ?_
        refine lv_lsub hx hb dX7_hasOnLeft_136 ?_
        refine lv_lconst (v := 0) hx hb dX7_hasOnLeft_137 (by decide) ?_
        refine W.lcmp hx hb dX7_hasOnLeft_138 ?_
        have J_54 : ∀ (v_53 : Int32) (ls : Array Slot), lv_has ls 23 [(20, .int v_50), (18, .long ((((tx2).toInt64 - (x).toInt64) * ((fy).toInt64 - (y).toInt64)) - (((ty2).toInt64 - (y).toInt64) * ((fx).toInt64 - (x).toInt64)))), (16, .long ((wy).toInt64 - (y).toInt64)), (14, .long ((wx).toInt64 - (x).toInt64)), (12, .long ((fy).toInt64 - (y).toInt64)), (10, .long ((fx).toInt64 - (x).toInt64)), (8, .long ((ty2).toInt64 - (y).toInt64)), (6, .long ((tx2).toInt64 - (x).toInt64)), (5, .ref nx), (0, .ref g), (1, .int x), (2, .int y), (3, .int wx), (4, .int wy)] → v_53 = (if ((((wx).toInt64 - (x).toInt64) * ((fy).toInt64 - (y).toInt64)) - (((wy).toInt64 - (y).toInt64) * ((fx).toInt64 - (x).toInt64))) ≤ 0 then 0 else 1) → W p l e R s m args below meth c s.heap [] (0) (0) Q (F0 m 147 ls [.int v_53]) := by
          intro v_53 ls hl ev_53
          refine lv_istore (lv' := [(21, .int v_53), (20, .int v_50), (18, .long ((((tx2).toInt64 - (x).toInt64) * ((fy).toInt64 - (y).toInt64)) - (((ty2).toInt64 - (y).toInt64) * ((fx).toInt64 - (x).toInt64)))), (16, .long ((wy).toInt64 - (y).toInt64)), (14, .long ((wx).toInt64 - (x).toInt64)), (12, .long ((fy).toInt64 - (y).toInt64)), (10, .long ((fx).toInt64 - (x).toInt64)), (8, .long ((ty2).toInt64 - (y).toInt64)), (6, .long ((tx2).toInt64 - (x).toInt64)), (5, .ref nx), (0, .ref g), (1, .int x), (2, .int y), (3, .int wx), (4, .int wy)]) hx hb dX7_hasOnLeft_147 hl (by decide) rfl (fun ls hl => ?_)
          refine lv_lload hx hb dX7_hasOnLeft_149 (lv_at hl 2 rfl) ?_
          refine lv_lconst (v := 0) hx hb dX7_hasOnLeft_151 (by decide) ?_
          refine W.lcmp hx hb dX7_hasOnLeft_152 ?_
          refine lv_if_le (tgt := 172) hx hb dX7_hasOnLeft_153 (by decide) (fun c_55 => ?_) (fun c_55 => ?_)
          · skip
            have c_55 : ((((tx2).toInt64 - (x).toInt64) * ((fy).toInt64 - (y).toInt64)) - (((ty2).toInt64 - (y).toInt64) * ((fx).toInt64 - (x).toInt64))) ≤ 0 := lgc_le.mp c_55
            refine lv_lload hx hb dX7_hasOnLeft_172 (lv_at hl 2 rfl) ?_
            refine lv_lconst (v := 0) hx hb dX7_hasOnLeft_174 (by decide) ?_
            refine W.lcmp hx hb dX7_hasOnLeft_175 ?_
            refine lv_if_ge (tgt := 195) hx hb dX7_hasOnLeft_176 (by decide) (fun c_56 => ?_) (fun c_56 => ?_)
            · skip
              have c_56 : 0 ≤ ((((tx2).toInt64 - (x).toInt64) * ((fy).toInt64 - (y).toInt64)) - (((ty2).toInt64 - (y).toInt64) * ((fx).toInt64 - (x).toInt64))) := lgc_ge.mp c_56
              refine lv_lload hx hb dX7_hasOnLeft_195 (lv_at hl 8 rfl) ?_
              refine lv_lload hx hb dX7_hasOnLeft_197 (lv_at hl 6 rfl) ?_
              refine lv_lmul hx hb dX7_hasOnLeft_199 ?_
              refine lv_lload hx hb dX7_hasOnLeft_200 (lv_at hl 7 rfl) ?_
              refine lv_lload hx hb dX7_hasOnLeft_202 (lv_at hl 5 rfl) ?_
              refine lv_lmul hx hb dX7_hasOnLeft_204 ?_
              refine lv_ladd hx hb dX7_hasOnLeft_205 ?_
              refine lv_lconst (v := 0) hx hb dX7_hasOnLeft_206 (by decide) ?_
              refine W.lcmp hx hb dX7_hasOnLeft_207 ?_
              have J_59 : ∀ (v_58 : Int32) (ls : Array Slot), lv_has ls 23 [(21, .int v_53), (20, .int v_50), (18, .long ((((tx2).toInt64 - (x).toInt64) * ((fy).toInt64 - (y).toInt64)) - (((ty2).toInt64 - (y).toInt64) * ((fx).toInt64 - (x).toInt64)))), (16, .long ((wy).toInt64 - (y).toInt64)), (14, .long ((wx).toInt64 - (x).toInt64)), (12, .long ((fy).toInt64 - (y).toInt64)), (10, .long ((fx).toInt64 - (x).toInt64)), (8, .long ((ty2).toInt64 - (y).toInt64)), (6, .long ((tx2).toInt64 - (x).toInt64)), (5, .ref nx), (0, .ref g), (1, .int x), (2, .int y), (3, .int wx), (4, .int wy)] → v_58 = (if 0 ≤ ((((tx2).toInt64 - (x).toInt64) * ((fx).toInt64 - (x).toInt64)) + (((ty2).toInt64 - (y).toInt64) * ((fy).toInt64 - (y).toInt64))) then 0 else 1) → W p l e R s m args below meth c s.heap [] (0) (0) Q (F0 m 216 ls [.int v_58]) := by
                intro v_58 ls hl ev_58
                refine lv_istore (lv' := [(22, .int v_58), (21, .int v_53), (20, .int v_50), (18, .long ((((tx2).toInt64 - (x).toInt64) * ((fy).toInt64 - (y).toInt64)) - (((ty2).toInt64 - (y).toInt64) * ((fx).toInt64 - (x).toInt64)))), (16, .long ((wy).toInt64 - (y).toInt64)), (14, .long ((wx).toInt64 - (x).toInt64)), (12, .long ((fy).toInt64 - (y).toInt64)), (10, .long ((fx).toInt64 - (x).toInt64)), (8, .long ((ty2).toInt64 - (y).toInt64)), (6, .long ((tx2).toInt64 - (x).toInt64)), (5, .ref nx), (0, .ref g), (1, .int x), (2, .int y), (3, .int wx), (4, .int wy)]) hx hb dX7_hasOnLeft_216 hl (by decide) rfl (fun ls hl => ?_)
                refine lv_iload hx hb dX7_hasOnLeft_218 (lv_at hl 0 rfl) ?_
                have J_63 : ∀ (v_62 : Int32) (ls : Array Slot), lv_has ls 23 [(22, .int v_58), (21, .int v_53), (20, .int v_50), (18, .long ((((tx2).toInt64 - (x).toInt64) * ((fy).toInt64 - (y).toInt64)) - (((ty2).toInt64 - (y).toInt64) * ((fx).toInt64 - (x).toInt64)))), (16, .long ((wy).toInt64 - (y).toInt64)), (14, .long ((wx).toInt64 - (x).toInt64)), (12, .long ((fy).toInt64 - (y).toInt64)), (10, .long ((fx).toInt64 - (x).toInt64)), (8, .long ((ty2).toInt64 - (y).toInt64)), (6, .long ((tx2).toInt64 - (x).toInt64)), (5, .ref nx), (0, .ref g), (1, .int x), (2, .int y), (3, .int wx), (4, .int wy)] → v_62 = (if v_58 = 0 then 0 else (if v_50 = 0 then 0 else 1)) → W p l e R s m args below meth c s.heap [] (0) (0) Q (F0 m 233 ls [.int v_62]) := by
                  intro v_62 ls hl ev_62
                  have hv : v_62 = bI (sgLeft fx fy tx ty tx2 ty2 x y wx wy) := by
                    subst ev_62
                    subst ev_58
                    subst ev_53
                    subst ev_50
                    unfold sgLeft
                    simp only [bI_if, bI_t, bI_f]
                    all_goals rw [if_pos c_1, if_pos c_25, if_pos c_55, if_pos c_56]
                  rw [hQ]
                  exact h_zret hx hb hr hlk hsz hw (by simp) (by simp) dX7_hasOnLeft_233 (bI_v hv) ⟨congrArg (fun z => some (Value.int z)) hv, rfl⟩
                refine lv_if_eq (tgt := 232) hx hb dX7_hasOnLeft_220 (by decide) (fun c_60 => ?_) (fun c_60 => ?_)
                · skip
                  refine lv_iconst (v := 0) hx hb dX7_hasOnLeft_232 (by decide) ?_
                  exact J_63 0 ls (lv_sub hl [0, 1, 2, 3, 4, 5, 6, 7, 8, 9, 10, 11, 12, 13, 14, 15] rfl) (by rw [if_pos c_60])
                · skip
                  refine lv_iload hx hb dX7_hasOnLeft_223 (lv_at hl 2 rfl) ?_
                  refine lv_if_eq (tgt := 232) hx hb dX7_hasOnLeft_225 (by decide) (fun c_61 => ?_) (fun c_61 => ?_)
                  · skip
                    refine lv_iconst (v := 0) hx hb dX7_hasOnLeft_232 (by decide) ?_
                    exact J_63 0 ls (lv_sub hl [0, 1, 2, 3, 4, 5, 6, 7, 8, 9, 10, 11, 12, 13, 14, 15] rfl) (by rw [if_neg c_60, if_pos c_61])
                  · skip
                    refine lv_iconst (v := 1) hx hb dX7_hasOnLeft_228 (by decide) ?_
                    refine lv_goto (tgt := 233) hx hb dX7_hasOnLeft_229 (by decide) ?_
                    exact J_63 1 ls (lv_sub hl [0, 1, 2, 3, 4, 5, 6, 7, 8, 9, 10, 11, 12, 13, 14, 15] rfl) (by rw [if_neg c_60, if_neg c_61])
              refine lv_if_ge (tgt := 215) hx hb dX7_hasOnLeft_208 (by decide) (fun c_57 => ?_) (fun c_57 => ?_)
              · skip
                have c_57 : 0 ≤ ((((tx2).toInt64 - (x).toInt64) * ((fx).toInt64 - (x).toInt64)) + (((ty2).toInt64 - (y).toInt64) * ((fy).toInt64 - (y).toInt64))) := lgc_ge.mp c_57
                refine lv_iconst (v := 0) hx hb dX7_hasOnLeft_215 (by decide) ?_
                exact J_59 0 ls (lv_sub hl [0, 1, 2, 3, 4, 5, 6, 7, 8, 9, 10, 11, 12, 13, 14] rfl) (by rw [if_pos c_57])
              · skip
                have c_57 : ¬ (0 ≤ ((((tx2).toInt64 - (x).toInt64) * ((fx).toInt64 - (x).toInt64)) + (((ty2).toInt64 - (y).toInt64) * ((fy).toInt64 - (y).toInt64)))) := (not_congr lgc_ge).mp c_57
                refine lv_iconst (v := 1) hx hb dX7_hasOnLeft_211 (by decide) ?_
                refine lv_goto (tgt := 216) hx hb dX7_hasOnLeft_212 (by decide) ?_
                exact J_59 1 ls (lv_sub hl [0, 1, 2, 3, 4, 5, 6, 7, 8, 9, 10, 11, 12, 13, 14] rfl) (by rw [if_neg c_57])
            · skip
              have c_56 : ¬ (0 ≤ ((((tx2).toInt64 - (x).toInt64) * ((fy).toInt64 - (y).toInt64)) - (((ty2).toInt64 - (y).toInt64) * ((fx).toInt64 - (x).toInt64)))) := (not_congr lgc_ge).mp c_56
              refine lv_iload hx hb dX7_hasOnLeft_179 (lv_at hl 1 rfl) ?_
              have J_67 : ∀ (v_66 : Int32) (ls : Array Slot), lv_has ls 23 [(21, .int v_53), (20, .int v_50), (18, .long ((((tx2).toInt64 - (x).toInt64) * ((fy).toInt64 - (y).toInt64)) - (((ty2).toInt64 - (y).toInt64) * ((fx).toInt64 - (x).toInt64)))), (16, .long ((wy).toInt64 - (y).toInt64)), (14, .long ((wx).toInt64 - (x).toInt64)), (12, .long ((fy).toInt64 - (y).toInt64)), (10, .long ((fx).toInt64 - (x).toInt64)), (8, .long ((ty2).toInt64 - (y).toInt64)), (6, .long ((tx2).toInt64 - (x).toInt64)), (5, .ref nx), (0, .ref g), (1, .int x), (2, .int y), (3, .int wx), (4, .int wy)] → v_66 = (if v_50 = 0 then (if v_53 = 0 then 0 else 1) else 1) → W p l e R s m args below meth c s.heap [] (0) (0) Q (F0 m 194 ls [.int v_66]) := by
                intro v_66 ls hl ev_66
                have hv : v_66 = bI (sgLeft fx fy tx ty tx2 ty2 x y wx wy) := by
                  subst ev_66
                  subst ev_53
                  subst ev_50
                  unfold sgLeft
                  simp only [bI_if, bI_t, bI_f]
                  all_goals rw [if_pos c_1, if_pos c_25, if_pos c_55, if_neg c_56]
                rw [hQ]
                exact h_zret hx hb hr hlk hsz hw (by simp) (by simp) dX7_hasOnLeft_194 (bI_v hv) ⟨congrArg (fun z => some (Value.int z)) hv, rfl⟩
              refine lv_if_ne (tgt := 189) hx hb dX7_hasOnLeft_181 (by decide) (fun c_64 => ?_) (fun c_64 => ?_)
              · skip
                refine lv_iconst (v := 1) hx hb dX7_hasOnLeft_189 (by decide) ?_
                refine lv_goto (tgt := 194) hx hb dX7_hasOnLeft_190 (by decide) ?_
                exact J_67 1 ls (lv_sub hl [0, 1, 2, 3, 4, 5, 6, 7, 8, 9, 10, 11, 12, 13, 14] rfl) (by rw [if_neg c_64])
              · skip
                refine lv_iload hx hb dX7_hasOnLeft_184 (lv_at hl 0 rfl) ?_
                refine lv_if_eq (tgt := 193) hx hb dX7_hasOnLeft_186 (by decide) (fun c_65 => ?_) (fun c_65 => ?_)
                · skip
                  refine lv_iconst (v := 0) hx hb dX7_hasOnLeft_193 (by decide) ?_
                  exact J_67 0 ls (lv_sub hl [0, 1, 2, 3, 4, 5, 6, 7, 8, 9, 10, 11, 12, 13, 14] rfl) (by rw [if_pos c_64, if_pos c_65])
                · skip
                  refine lv_iconst (v := 1) hx hb dX7_hasOnLeft_189 (by decide) ?_
                  refine lv_goto (tgt := 194) hx hb dX7_hasOnLeft_190 (by decide) ?_
                  exact J_67 1 ls (lv_sub hl [0, 1, 2, 3, 4, 5, 6, 7, 8, 9, 10, 11, 12, 13, 14] rfl) (by rw [if_pos c_64, if_neg c_65])
          · skip
            have c_55 : ¬ (((((tx2).toInt64 - (x).toInt64) * ((fy).toInt64 - (y).toInt64)) - (((ty2).toInt64 - (y).toInt64) * ((fx).toInt64 - (x).toInt64))) ≤ 0) := (not_congr lgc_le).mp c_55
            refine lv_iload hx hb dX7_hasOnLeft_156 (lv_at hl 1 rfl) ?_
            have J_71 : ∀ (v_70 : Int32) (ls : Array Slot), lv_has ls 23 [(21, .int v_53), (20, .int v_50), (18, .long ((((tx2).toInt64 - (x).toInt64) * ((fy).toInt64 - (y).toInt64)) - (((ty2).toInt64 - (y).toInt64) * ((fx).toInt64 - (x).toInt64)))), (16, .long ((wy).toInt64 - (y).toInt64)), (14, .long ((wx).toInt64 - (x).toInt64)), (12, .long ((fy).toInt64 - (y).toInt64)), (10, .long ((fx).toInt64 - (x).toInt64)), (8, .long ((ty2).toInt64 - (y).toInt64)), (6, .long ((tx2).toInt64 - (x).toInt64)), (5, .ref nx), (0, .ref g), (1, .int x), (2, .int y), (3, .int wx), (4, .int wy)] → v_70 = (if v_50 = 0 then 0 else (if v_53 = 0 then 0 else 1)) → W p l e R s m args below meth c s.heap [] (0) (0) Q (F0 m 171 ls [.int v_70]) := by
              intro v_70 ls hl ev_70
              have hv : v_70 = bI (sgLeft fx fy tx ty tx2 ty2 x y wx wy) := by
                subst ev_70
                subst ev_53
                subst ev_50
                unfold sgLeft
                simp only [bI_if, bI_t, bI_f]
                all_goals rw [if_pos c_1, if_pos c_25, if_neg c_55]
              rw [hQ]
              exact h_zret hx hb hr hlk hsz hw (by simp) (by simp) dX7_hasOnLeft_171 (bI_v hv) ⟨congrArg (fun z => some (Value.int z)) hv, rfl⟩
            refine lv_if_eq (tgt := 170) hx hb dX7_hasOnLeft_158 (by decide) (fun c_68 => ?_) (fun c_68 => ?_)
            · skip
              refine lv_iconst (v := 0) hx hb dX7_hasOnLeft_170 (by decide) ?_
              exact J_71 0 ls (lv_sub hl [0, 1, 2, 3, 4, 5, 6, 7, 8, 9, 10, 11, 12, 13, 14] rfl) (by rw [if_pos c_68])
            · skip
              refine lv_iload hx hb dX7_hasOnLeft_161 (lv_at hl 0 rfl) ?_
              refine lv_if_eq (tgt := 170) hx hb dX7_hasOnLeft_163 (by decide) (fun c_69 => ?_) (fun c_69 => ?_)
              · skip
                refine lv_iconst (v := 0) hx hb dX7_hasOnLeft_170 (by decide) ?_
                exact J_71 0 ls (lv_sub hl [0, 1, 2, 3, 4, 5, 6, 7, 8, 9, 10, 11, 12, 13, 14] rfl) (by rw [if_neg c_68, if_pos c_69])
              · skip
                refine lv_iconst (v := 1) hx hb dX7_hasOnLeft_166 (by decide) ?_
                refine lv_goto (tgt := 171) hx hb dX7_hasOnLeft_167 (by decide) ?_
                exact J_71 1 ls (lv_sub hl [0, 1, 2, 3, 4, 5, 6, 7, 8, 9, 10, 11, 12, 13, 14] rfl) (by rw [if_neg c_68, if_neg c_69])
        refine lv_if_le (tgt := 146) hx hb dX7_hasOnLeft_139 (by decide) (fun c_52 => ?_) (fun c_52 => ?_)
        · skip
          have c_52 : ((((wx).toInt64 - (x).toInt64) * ((fy).toInt64 - (y).toInt64)) - (((wy).toInt64 - (y).toInt64) * ((fx).toInt64 - (x).toInt64))) ≤ 0 := lgc_le.mp c_52
          refine lv_iconst (v := 0) hx hb dX7_hasOnLeft_146 (by decide) ?_
          exact J_54 0 ls (lv_sub hl [0, 1, 2, 3, 4, 5, 6, 7, 8, 9, 10, 11, 12, 13] rfl) (by rw [if_pos c_52])
        · skip
          have c_52 : ¬ (((((wx).toInt64 - (x).toInt64) * ((fy).toInt64 - (y).toInt64)) - (((wy).toInt64 - (y).toInt64) * ((fx).toInt64 - (x).toInt64))) ≤ 0) := (not_congr lgc_le).mp c_52
          refine lv_iconst (v := 1) hx hb dX7_hasOnLeft_142 (by decide) ?_
          refine lv_goto (tgt := 147) hx hb dX7_hasOnLeft_143 (by decide) ?_
          exact J_54 1 ls (lv_sub hl [0, 1, 2, 3, 4, 5, 6, 7, 8, 9, 10, 11, 12, 13] rfl) (by rw [if_neg c_52])
      refine lv_if_le (tgt := 123) hx hb dX7_hasOnLeft_116 (by decide) (fun c_49 => ?_) (fun c_49 => ?_)
      · skip
        have c_49 : ((((tx2).toInt64 - (x).toInt64) * ((wy).toInt64 - (y).toInt64)) - (((ty2).toInt64 - (y).toInt64) * ((wx).toInt64 - (x).toInt64))) ≤ 0 := lgc_le.mp c_49
        refine lv_iconst (v := 0) hx hb dX7_hasOnLeft_123 (by decide) ?_
        exact J_51 0 ls (lv_sub hl [0, 1, 2, 3, 4, 5, 6, 7, 8, 9, 10, 11, 12] rfl) (by rw [if_pos c_49])
      · skip
        have c_49 : ¬ (((((tx2).toInt64 - (x).toInt64) * ((wy).toInt64 - (y).toInt64)) - (((ty2).toInt64 - (y).toInt64) * ((wx).toInt64 - (x).toInt64))) ≤ 0) := (not_congr lgc_le).mp c_49
        refine lv_iconst (v := 1) hx hb dX7_hasOnLeft_119 (by decide) ?_
        refine lv_goto (tgt := 124) hx hb dX7_hasOnLeft_120 (by decide) ?_
        exact J_51 1 ls (lv_sub hl [0, 1, 2, 3, 4, 5, 6, 7, 8, 9, 10, 11, 12] rfl) (by rw [if_neg c_49])

set_option maxHeartbeats 4000000 in
set_option maxRecDepth 100000 in
theorem c_X7_init (l : Launch) (D : va_G) (dT : Nat → ClassId) (ah : hA) (sz : Nat) (g rg : Nat) (no fx fy tx ty : Int32) (he : ah g = some (.inr (7, [.null, .int 0, .int 0, .int 0, .int 0, .int 0, .null, .null]))) : hMet l yX7_init cX7_init 7 none ({ frames := 2, cells := 1, slots := 4, locals := 46 }) D dT [.ref g, .ref rg, .int no, .int fx, .int fy, .int tx, .int ty] ah sz (fun r ah2 => r = none ∧ ∃ q : Nat, ah q = none ∧ q ≠ g ∧ ah2 q = some (.inr (0, [.int (iMin (iMin 1000000000 fx) tx), .int (iMin (iMin 1000000000 fy) ty), .int (iMax (iMax (-1000000000) fx) tx), .int (iMax (iMax (-1000000000) fy) ty)])) ∧ ah2 g = some (.inr (7, [.ref rg, .int no, .int fx, .int fy, .int tx, .int ty, .ref q, .null])) ∧ ∀ a, a ≠ g → a ≠ q → ah2 a = ah a) 1 4 := by
  refine h_met (by decide) (Nat.le_of_ble_eq_true rfl) ?_
  intro p e s m below meth c ls R Q args hav hR hQ hB hl hsz hw
  obtain ⟨hx, hb, hml, hr, hts, hown, hlk, hin, hK⟩ := hB
  have hown : s.vm.findClass RX7 = some m.cls := hown
  have hl : lv_has ls 7 [(0, .ref g), (1, .ref rg), (2, .int no), (3, .int fx), (4, .int fy), (5, .int tx), (6, .int ty)] := hl
  refine lv_aload_n hx hb dX7_init_0 rfl (lv_at hl 0 rfl) ?_
  refine W.objInit hx hb hown (hts _ km_X7_1) (hts _ ki_obj) (hts _ ko_obj) rfl (by rw [hml]; exact hl.1) rfl dX7_init_1 (by rw [hR]; exact Nat.le_of_ble_eq_true rfl) (by rw [hR]; exact Nat.le_of_ble_eq_true rfl) ?_
  refine W.eq (g2 := F0 m 4 ls []) rfl ?_
  refine lv_aload_n hx hb dX7_init_4 rfl (lv_at hl 0 rfl) ?_
  refine lv_aload_n hx hb dX7_init_5 rfl (lv_at hl 1 rfl) ?_
  refine h_putF (ci := 7) (v := .ref rg) (C := RX7) (T := TX7) (N := 8) hx hb hts kl_X7 tyX7 tyX7_ok nmX7 hown hK hw he rfl 0 (by decide) (hts _ kf_X7_7) rfl rfl hin rfl (tyX7_ok 0 (by decide)) rfl rfl (Nat.le_of_ble_eq_true rfl) dX7_init_6 (fun H_1 L_2 hw => ?_)
  obtain ⟨ah_3, eah_3⟩ : ∃ z9 : hA, z9 = hup ah g (.inr (7, [.ref rg, .int 0, .int 0, .int 0, .int 0, .int 0, .null, .null])) := ⟨_, rfl⟩
  have hw : hW D ah s.heap ah_3 H_1 L_2 := by rw [eah_3]; exact hw
  have hc_4 : ah_3 g = some (.inr (7, [.ref rg, .int 0, .int 0, .int 0, .int 0, .int 0, .null, .null])) := by rw [eah_3]; exact hup_s
  refine lv_aload_n hx hb dX7_init_9 rfl (lv_at hl 0 rfl) ?_
  refine lv_iload_n hx hb dX7_init_10 rfl (lv_at hl 2 rfl) ?_
  refine h_putF (ci := 7) (v := .int no) (C := RX7) (T := TX7) (N := 8) hx hb hts kl_X7 tyX7 tyX7_ok nmX7 hown hK hw hc_4 rfl 1 (by decide) (hts _ kf_X7_13) rfl rfl hin rfl (tyX7_ok 1 (by decide)) rfl rfl (Nat.le_of_ble_eq_true rfl) dX7_init_11 (fun H_5 L_6 hw => ?_)
  obtain ⟨ah_7, eah_7⟩ : ∃ z9 : hA, z9 = hup ah_3 g (.inr (7, [.ref rg, .int no, .int 0, .int 0, .int 0, .int 0, .null, .null])) := ⟨_, rfl⟩
  have hw : hW D ah s.heap ah_7 H_5 L_6 := by rw [eah_7]; exact hw
  have hc_8 : ah_7 g = some (.inr (7, [.ref rg, .int no, .int 0, .int 0, .int 0, .int 0, .null, .null])) := by rw [eah_7]; exact hup_s
  refine lv_aload_n hx hb dX7_init_14 rfl (lv_at hl 0 rfl) ?_
  refine lv_iload_n hx hb dX7_init_15 rfl (lv_at hl 3 rfl) ?_
  refine h_putF (ci := 7) (v := .int fx) (C := RX7) (T := TX7) (N := 8) hx hb hts kl_X7 tyX7 tyX7_ok nmX7 hown hK hw hc_8 rfl 2 (by decide) (hts _ kf_X7_17) rfl rfl hin rfl (tyX7_ok 2 (by decide)) rfl rfl (Nat.le_of_ble_eq_true rfl) dX7_init_16 (fun H_9 L_10 hw => ?_)
  obtain ⟨ah_11, eah_11⟩ : ∃ z9 : hA, z9 = hup ah_7 g (.inr (7, [.ref rg, .int no, .int fx, .int 0, .int 0, .int 0, .null, .null])) := ⟨_, rfl⟩
  have hw : hW D ah s.heap ah_11 H_9 L_10 := by rw [eah_11]; exact hw
  have hc_12 : ah_11 g = some (.inr (7, [.ref rg, .int no, .int fx, .int 0, .int 0, .int 0, .null, .null])) := by rw [eah_11]; exact hup_s
  refine lv_aload_n hx hb dX7_init_19 rfl (lv_at hl 0 rfl) ?_
  refine lv_iload hx hb dX7_init_20 (lv_at hl 4 rfl) ?_
  refine h_putF (ci := 7) (v := .int fy) (C := RX7) (T := TX7) (N := 8) hx hb hts kl_X7 tyX7 tyX7_ok nmX7 hown hK hw hc_12 rfl 3 (by decide) (hts _ kf_X7_20) rfl rfl hin rfl (tyX7_ok 3 (by decide)) rfl rfl (Nat.le_of_ble_eq_true rfl) dX7_init_22 (fun H_13 L_14 hw => ?_)
  obtain ⟨ah_15, eah_15⟩ : ∃ z9 : hA, z9 = hup ah_11 g (.inr (7, [.ref rg, .int no, .int fx, .int fy, .int 0, .int 0, .null, .null])) := ⟨_, rfl⟩
  have hw : hW D ah s.heap ah_15 H_13 L_14 := by rw [eah_15]; exact hw
  have hc_16 : ah_15 g = some (.inr (7, [.ref rg, .int no, .int fx, .int fy, .int 0, .int 0, .null, .null])) := by rw [eah_15]; exact hup_s
  refine lv_aload_n hx hb dX7_init_25 rfl (lv_at hl 0 rfl) ?_
  refine lv_iload hx hb dX7_init_26 (lv_at hl 5 rfl) ?_
  refine h_putF (ci := 7) (v := .int tx) (C := RX7) (T := TX7) (N := 8) hx hb hts kl_X7 tyX7 tyX7_ok nmX7 hown hK hw hc_16 rfl 4 (by decide) (hts _ kf_X7_23) rfl rfl hin rfl (tyX7_ok 4 (by decide)) rfl rfl (Nat.le_of_ble_eq_true rfl) dX7_init_28 (fun H_17 L_18 hw => ?_)
  obtain ⟨ah_19, eah_19⟩ : ∃ z9 : hA, z9 = hup ah_15 g (.inr (7, [.ref rg, .int no, .int fx, .int fy, .int tx, .int 0, .null, .null])) := ⟨_, rfl⟩
  have hw : hW D ah s.heap ah_19 H_17 L_18 := by rw [eah_19]; exact hw
  have hc_20 : ah_19 g = some (.inr (7, [.ref rg, .int no, .int fx, .int fy, .int tx, .int 0, .null, .null])) := by rw [eah_19]; exact hup_s
  refine lv_aload_n hx hb dX7_init_31 rfl (lv_at hl 0 rfl) ?_
  refine lv_iload hx hb dX7_init_32 (lv_at hl 6 rfl) ?_
  refine h_putF (ci := 7) (v := .int ty) (C := RX7) (T := TX7) (N := 8) hx hb hts kl_X7 tyX7 tyX7_ok nmX7 hown hK hw hc_20 rfl 5 (by decide) (hts _ kf_X7_26) rfl rfl hin rfl (tyX7_ok 5 (by decide)) rfl rfl (Nat.le_of_ble_eq_true rfl) dX7_init_34 (fun H_21 L_22 hw => ?_)
  obtain ⟨ah_23, eah_23⟩ : ∃ z9 : hA, z9 = hup ah_19 g (.inr (7, [.ref rg, .int no, .int fx, .int fy, .int tx, .int ty, .null, .null])) := ⟨_, rfl⟩
  have hw : hW D ah s.heap ah_23 H_21 L_22 := by rw [eah_23]; exact hw
  have hc_24 : ah_23 g = some (.inr (7, [.ref rg, .int no, .int fx, .int fy, .int tx, .int ty, .null, .null])) := by rw [eah_23]; exact hup_s
  refine lv_aload_n hx hb dX7_init_37 rfl (lv_at hl 0 rfl) ?_
  refine h_new (ci := 0) (fs := [.int 0, .int 0, .int 0, .int 0]) (C := RX0) (T := TX0) (N := 4) hx hb hts kl_X0 tyX0 tyX0_ok hown (hts _ kc_X7_29) (hts _ ka_X0) (hts _ kn_X0) hK hw rfl (hdef_X0) (by rw [hR]; simp; try omega) (by rw [hR]; simp; try omega) dX7_init_38 (fun q_25 H_26 hqq_25 hw => ?_)
  obtain ⟨ah_27, eah_27⟩ : ∃ z9 : hA, z9 = hup ah_23 q_25 (.inr (0, [.int 0, .int 0, .int 0, .int 0])) := ⟨_, rfl⟩
  have hw : hW D ah s.heap ah_27 H_26 L_22 := by rw [eah_27]; exact hw
  have hne_29 : g ≠ q_25 := h_fr hc_24 hqq_25
  have hc_28 := (show ah_27 g = _ from (by rw [eah_27]; exact hup_n (hne_29))).trans hc_24
  have hc_q_25 : ah_27 q_25 = some (.inr (0, [.int 0, .int 0, .int 0, .int 0])) := by rw [eah_27]; exact hup_s
  refine lv_dup hx hb dX7_init_41 rfl ?_
  refine h_callIN (n := 0) (b := q_25) (As := []) (rest := [.ref q_25, .ref g]) ⟨hx, hb, hml, hown, hts⟩ hK hw (c_X0_init l D dT ah_27 H_26.size q_25 0 0 0 0 hc_q_25 ) ko_X0_init (List.mem_of_getElem? (i := 39) rfl) ki_X0_init kn_X0 rfl (by decide +kernel) rfl hl.1 rfl (by simp [Value.category]) dX7_init_42 (by rw [hR]; exact ⟨rfl, rfl, by decide, by decide, by decide, by decide⟩) (fun r_30 ah_31 H_32 L_33 st_34 hp hw hst => ?_)
  obtain ⟨rfl, eah_31⟩ := hp
  have hc_35 := (show ah_31 g = _ from (by rw [eah_31]; exact hup_n (hne_29))).trans hc_28
  have hc_36 : ah_31 q_25 = some (.inr (0, [.int 1000000000, .int 1000000000, .int (-1000000000), .int (-1000000000)])) := by rw [eah_31]; exact hup_s
  have hst : st_34 = [.ref q_25, .ref g] := hst
  subst hst
  refine h_putF (ci := 7) (v := .ref q_25) (C := RX7) (T := TX7) (N := 8) hx hb hts kl_X7 tyX7 tyX7_ok nmX7 hown hK hw hc_35 rfl 6 (by decide) (hts _ kf_X7_32) rfl rfl hin rfl (tyX7_ok 6 (by decide)) rfl rfl (Nat.le_of_ble_eq_true rfl) dX7_init_45 (fun H_37 L_38 hw => ?_)
  obtain ⟨ah_39, eah_39⟩ : ∃ z9 : hA, z9 = hup ah_31 g (.inr (7, [.ref rg, .int no, .int fx, .int fy, .int tx, .int ty, .ref q_25, .null])) := ⟨_, rfl⟩
  have hw : hW D ah s.heap ah_39 H_37 L_38 := by rw [eah_39]; exact hw
  have hc_40 : ah_39 g = some (.inr (7, [.ref rg, .int no, .int fx, .int fy, .int tx, .int ty, .ref q_25, .null])) := by rw [eah_39]; exact hup_s
  have hc_41 := (show ah_39 q_25 = _ from (by rw [eah_39]; exact hup_n (hne_29.symm))).trans hc_36
  refine lv_aload_n hx hb dX7_init_48 rfl (lv_at hl 0 rfl) ?_
  refine h_get (ci := 7) (v := .ref q_25) (C := RX7) (T := TX7) (N := 8) hx hb hts kl_X7 hown hK hw hc_40 rfl 6 (by decide) (hts _ kf_X7_32) rfl rfl dX7_init_49 ?_
  refine lv_iload_n hx hb dX7_init_52 rfl (lv_at hl 3 rfl) ?_
  refine lv_iload hx hb dX7_init_53 (lv_at hl 4 rfl) ?_
  refine h_callV (n := 2) (ci := 0) (b := q_25) (As := [.int fx, .int fy]) (rest := []) ⟨hx, hb, hml, hown, hts⟩ hK hw (c_X0_take l D dT ah_39 H_37.size q_25 1000000000 1000000000 (-1000000000) (-1000000000) hc_41 fx fy) ko_X0_take km_X7_36 ki_X0_take ks_X0_take kn_X0 (by decide +kernel) rfl hc_41 rfl hl.1 rfl (by simp [Value.category]) dX7_init_55 (by rw [hR]; exact ⟨rfl, rfl, by decide, by decide, by decide, by decide⟩) (fun r_42 ah_43 H_44 L_45 st_46 hp hw hst => ?_)
  obtain ⟨rfl, eah_43⟩ := hp
  have hc_47 := (show ah_43 g = _ from (by rw [eah_43]; exact hup_n (hne_29))).trans hc_40
  have hc_48 : ah_43 q_25 = some (.inr (0, [.int (iMin 1000000000 fx), .int (iMin 1000000000 fy), .int (iMax (-1000000000) fx), .int (iMax (-1000000000) fy)])) := by rw [eah_43]; exact hup_s
  have hst : st_46 = [] := hst
  subst hst
  refine lv_aload_n hx hb dX7_init_58 rfl (lv_at hl 0 rfl) ?_
  refine h_get (ci := 7) (v := .ref q_25) (C := RX7) (T := TX7) (N := 8) hx hb hts kl_X7 hown hK hw hc_47 rfl 6 (by decide) (hts _ kf_X7_32) rfl rfl dX7_init_59 ?_
  refine lv_iload hx hb dX7_init_62 (lv_at hl 5 rfl) ?_
  refine lv_iload hx hb dX7_init_64 (lv_at hl 6 rfl) ?_
  refine h_callV (n := 2) (ci := 0) (b := q_25) (As := [.int tx, .int ty]) (rest := []) ⟨hx, hb, hml, hown, hts⟩ hK hw (c_X0_take l D dT ah_43 H_44.size q_25 (iMin 1000000000 fx) (iMin 1000000000 fy) (iMax (-1000000000) fx) (iMax (-1000000000) fy) hc_48 tx ty) ko_X0_take km_X7_36 ki_X0_take ks_X0_take kn_X0 (by decide +kernel) rfl hc_48 rfl hl.1 rfl (by simp [Value.category]) dX7_init_66 (by rw [hR]; exact ⟨rfl, rfl, by decide, by decide, by decide, by decide⟩) (fun r_49 ah_50 H_51 L_52 st_53 hp hw hst => ?_)
  obtain ⟨rfl, eah_50⟩ := hp
  have hc_54 := (show ah_50 g = _ from (by rw [eah_50]; exact hup_n (hne_29))).trans hc_47
  have hc_55 : ah_50 q_25 = some (.inr (0, [.int (iMin (iMin 1000000000 fx) tx), .int (iMin (iMin 1000000000 fy) ty), .int (iMax (iMax (-1000000000) fx) tx), .int (iMax (iMax (-1000000000) fy) ty)])) := by rw [eah_50]; exact hup_s
  have hst : st_53 = [] := hst
  subst hst
  rw [hQ]
  exact h_vret hx hb hr hlk hsz hw (by simp) (by simp) dX7_init_69 ⟨rfl, q_25, (by have hn : q_25 ≠ g := h_ne hc_55 hc_54 (by simp); have h9 := hqq_25; subst_vars; simpa [hup, hn] using h9), h_ne hc_55 hc_54 (by simp), hc_55, hc_54, fun a h1 h2 => by subst_vars; simp [hup, h1, h2]⟩

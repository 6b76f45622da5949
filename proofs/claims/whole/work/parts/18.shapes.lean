/-! ShapeJudge$Shapes: reads -/
def v7 (n0 n1 n2 n3 n4 n5 n6 : Nat) : Nat → Nat := fun k => match k with
  | 0 => n0
  | 1 => n1
  | 2 => n2
  | 3 => n3
  | 4 => n4
  | 5 => n5
  | _ => n6
/-- the shapes' object, its seven rows (kinds, outers, first chains, first points, xs, ys, open ones) and how many rings there are -/
def shA (dT : Nat → ClassId) (ah : hA) (sh : Nat) (RO RA cap v : Nat → Nat) (f : Nat → Nat → Int32) (rc : Nat) : Prop :=
  ah sh = some (.inr (8, [.ref (RO 0), .ref (RO 1), .ref (RO 2), .ref (RO 3), .ref (RO 4), .ref (RO 5), .ref (RO 6), .int (nI rc)])) ∧
  (∀ k, k < 7 → ah (RO k) = some (.inr (6, [.ref (RA k), .int (nI (v k))])) ∧ ah (RA k) = some (.inl (dT 0, cap k, .inl (f k))) ∧ v k ≤ cap k ∧ 32 ≤ cap k ∧ cap k ≤ 40000) ∧
  (∀ i j, i < 7 → j < 7 → RO i = RO j → i = j) ∧ ∀ i j, i < 7 → j < 7 → RA i = RA j → i = j
set_option maxHeartbeats 4000000 in
set_option maxRecDepth 100000 in
theorem c_X8_numbers (l : Launch) (D : va_G) (dT : Nat → ClassId) (ah : hA) (sz : Nat) (sh : Nat) (RO RA cap : Nat → Nat) (ns nc np no rc : Nat) (f : Nat → Nat → Int32) (hs : shA dT ah sh RO RA cap (v7 ns ns ns nc np np no) f rc) : hMet l yX8_numbers cX8_numbers 1 (some .int) ({ frames := 1, cells := 0, slots := 0, locals := 20 }) D dT [.ref sh] ah sz (fun r ah2 => r = some (.int (nI (2 * ns + 1 * rc))) ∧ ah = ah2) 0 0 := by
  refine h_met (by decide) (Nat.le_of_ble_eq_true rfl) ?_
  intro p e s m below meth c ls R Q args hav hR hQ hB hl hsz hw
  obtain ⟨hx, hb, hml, hr, hts, hown, hlk, hin, hK⟩ := hB
  have hown : s.vm.findClass RX8 = some m.cls := hown
  have hl : lv_has ls 1 [(0, .ref sh)] := hl
  have hb0 : ns ≤ cap 0 ∧ 32 ≤ cap 0 ∧ cap 0 ≤ 40000 := (hs.2.1 0 (by omega)).2.2
  have hb1 : ns ≤ cap 1 ∧ 32 ≤ cap 1 ∧ cap 1 ≤ 40000 := (hs.2.1 1 (by omega)).2.2
  have hb2 : ns ≤ cap 2 ∧ 32 ≤ cap 2 ∧ cap 2 ≤ 40000 := (hs.2.1 2 (by omega)).2.2
  have hb3 : nc ≤ cap 3 ∧ 32 ≤ cap 3 ∧ cap 3 ≤ 40000 := (hs.2.1 3 (by omega)).2.2
  have hb4 : np ≤ cap 4 ∧ 32 ≤ cap 4 ∧ cap 4 ≤ 40000 := (hs.2.1 4 (by omega)).2.2
  have hb5 : np ≤ cap 5 ∧ 32 ≤ cap 5 ∧ cap 5 ≤ 40000 := (hs.2.1 5 (by omega)).2.2
  have hb6 : no ≤ cap 6 ∧ 32 ≤ cap 6 ∧ cap 6 ≤ 40000 := (hs.2.1 6 (by omega)).2.2
  refine lv_iconst (v := 2) hx hb dX8_numbers_0 (by decide) ?_
  refine lv_aload_n hx hb dX8_numbers_1 rfl (lv_at hl 0 rfl) ?_
  refine h_get (ci := 8) (v := .ref (RO 0)) (C := RX8) (T := TX8) (N := 8) hx hb hts kl_X8 hown hK hw hs.1 rfl 0 (by decide) (hts _ kf_X8_12) rfl rfl dX8_numbers_2 ?_
  refine h_callV (n := 0) (ci := 6) (b := (RO 0)) (As := []) (rest := [.int 2]) ⟨hx, hb, hml, hown, hts⟩ hK hw (c_X6_size l D dT ah s.heap.size (RO 0) (RA 0) (cap 0) ns (f 0) (by omega) (by omega) (hs.2.1 0 (by omega)).1 (hs.2.1 0 (by omega)).2.1) ko_X6_size km_X8_43 ki_X6_size ks_X6_size kn_X6 (by decide +kernel) rfl (hs.2.1 0 (by omega)).1 rfl hl.1 rfl (by simp [Value.category]) dX8_numbers_5 (by rw [hR]; exact ⟨rfl, rfl, Nat.le_of_ble_eq_true rfl, Nat.le_of_ble_eq_true rfl, by simp, by simp⟩) (fun r_1 ah_2 H_3 L_4 st_5 hp hw hst => ?_)
  obtain ⟨rfl, rfl⟩ := hp
  have hst : st_5 = [.int (nI ns), .int 2] := hst
  subst hst
  refine lv_imul hx hb dX8_numbers_8 ?_
  refine lv_topi (fun t_6 et_6 => ?_)
  obtain rfl : t_6 = nI (2 * ns) := et_6.trans (nI_mul _ 2)
  refine lv_iconst (v := 1) hx hb dX8_numbers_9 (by decide) ?_
  refine lv_aload_n hx hb dX8_numbers_10 rfl (lv_at hl 0 rfl) ?_
  refine h_get (ci := 8) (v := .int (nI rc)) (C := RX8) (T := TX8) (N := 8) hx hb hts kl_X8 hown hK hw hs.1 rfl 7 (by decide) (hts _ kf_X8_39) rfl rfl dX8_numbers_11 ?_
  refine lv_imul hx hb dX8_numbers_14 ?_
  refine lv_topi (fun t_7 et_7 => ?_)
  obtain rfl : t_7 = nI (1 * rc) := et_7.trans (nI_mul _ 1)
  refine lv_iadd hx hb dX8_numbers_15 ?_
  refine lv_topi (fun t_8 et_8 => ?_)
  obtain rfl : t_8 = nI (2 * ns + 1 * rc) := et_8.trans (nI_add _ _)
  rw [hQ]
  exact h_iret hx hb hr hlk hsz hw (by simp) (by simp) dX8_numbers_16 ⟨rfl, rfl⟩

set_option maxHeartbeats 4000000 in
set_option maxRecDepth 100000 in
theorem c_X8_count (l : Launch) (D : va_G) (dT : Nat → ClassId) (ah : hA) (sz : Nat) (sh : Nat) (RO RA cap : Nat → Nat) (ns nc np no rc : Nat) (f : Nat → Nat → Int32) (hs : shA dT ah sh RO RA cap (v7 ns ns ns nc np np no) f rc) : hMet l yX8_count cX8_count 1 (some .int) ({ frames := 1, cells := 0, slots := 0, locals := 20 }) D dT [.ref sh] ah sz (fun r ah2 => r = some (.int (nI ns)) ∧ ah = ah2) 0 0 := by
  refine h_met (by decide) (Nat.le_of_ble_eq_true rfl) ?_
  intro p e s m below meth c ls R Q args hav hR hQ hB hl hsz hw
  obtain ⟨hx, hb, hml, hr, hts, hown, hlk, hin, hK⟩ := hB
  have hown : s.vm.findClass RX8 = some m.cls := hown
  have hl : lv_has ls 1 [(0, .ref sh)] := hl
  have hb0 : ns ≤ cap 0 ∧ 32 ≤ cap 0 ∧ cap 0 ≤ 40000 := (hs.2.1 0 (by omega)).2.2
  have hb1 : ns ≤ cap 1 ∧ 32 ≤ cap 1 ∧ cap 1 ≤ 40000 := (hs.2.1 1 (by omega)).2.2
  have hb2 : ns ≤ cap 2 ∧ 32 ≤ cap 2 ∧ cap 2 ≤ 40000 := (hs.2.1 2 (by omega)).2.2
  have hb3 : nc ≤ cap 3 ∧ 32 ≤ cap 3 ∧ cap 3 ≤ 40000 := (hs.2.1 3 (by omega)).2.2
  have hb4 : np ≤ cap 4 ∧ 32 ≤ cap 4 ∧ cap 4 ≤ 40000 := (hs.2.1 4 (by omega)).2.2
  have hb5 : np ≤ cap 5 ∧ 32 ≤ cap 5 ∧ cap 5 ≤ 40000 := (hs.2.1 5 (by omega)).2.2
  have hb6 : no ≤ cap 6 ∧ 32 ≤ cap 6 ∧ cap 6 ≤ 40000 := (hs.2.1 6 (by omega)).2.2
  refine lv_aload_n hx hb dX8_count_0 rfl (lv_at hl 0 rfl) ?_
  refine h_get (ci := 8) (v := .ref (RO 0)) (C := RX8) (T := TX8) (N := 8) hx hb hts kl_X8 hown hK hw hs.1 rfl 0 (by decide) (hts _ kf_X8_12) rfl rfl dX8_count_1 ?_
  refine h_callV (n := 0) (ci := 6) (b := (RO 0)) (As := []) (rest := []) ⟨hx, hb, hml, hown, hts⟩ hK hw (c_X6_size l D dT ah s.heap.size (RO 0) (RA 0) (cap 0) ns (f 0) (by omega) (by omega) (hs.2.1 0 (by omega)).1 (hs.2.1 0 (by omega)).2.1) ko_X6_size km_X8_43 ki_X6_size ks_X6_size kn_X6 (by decide +kernel) rfl (hs.2.1 0 (by omega)).1 rfl hl.1 rfl (by simp [Value.category]) dX8_count_4 (by rw [hR]; exact ⟨rfl, rfl, Nat.le_of_ble_eq_true rfl, Nat.le_of_ble_eq_true rfl, by simp, by simp⟩) (fun r_1 ah_2 H_3 L_4 st_5 hp hw hst => ?_)
  obtain ⟨rfl, rfl⟩ := hp
  have hst : st_5 = [.int (nI ns)] := hst
  subst hst
  rw [hQ]
  exact h_iret hx hb hr hlk hsz hw (by simp) (by simp) dX8_count_7 ⟨rfl, rfl⟩

set_option maxHeartbeats 4000000 in
set_option maxRecDepth 100000 in
theorem c_X8_pointCount (l : Launch) (D : va_G) (dT : Nat → ClassId) (ah : hA) (sz : Nat) (sh : Nat) (RO RA cap : Nat → Nat) (ns nc np no rc : Nat) (f : Nat → Nat → Int32) (hs : shA dT ah sh RO RA cap (v7 ns ns ns nc np np no) f rc) : hMet l yX8_pointCount cX8_pointCount 1 (some .int) ({ frames := 1, cells := 0, slots := 0, locals := 20 }) D dT [.ref sh] ah sz (fun r ah2 => r = some (.int (nI np)) ∧ ah = ah2) 0 0 := by
  refine h_met (by decide) (Nat.le_of_ble_eq_true rfl) ?_
  intro p e s m below meth c ls R Q args hav hR hQ hB hl hsz hw
  obtain ⟨hx, hb, hml, hr, hts, hown, hlk, hin, hK⟩ := hB
  have hown : s.vm.findClass RX8 = some m.cls := hown
  have hl : lv_has ls 1 [(0, .ref sh)] := hl
  have hb0 : ns ≤ cap 0 ∧ 32 ≤ cap 0 ∧ cap 0 ≤ 40000 := (hs.2.1 0 (by omega)).2.2
  have hb1 : ns ≤ cap 1 ∧ 32 ≤ cap 1 ∧ cap 1 ≤ 40000 := (hs.2.1 1 (by omega)).2.2
  have hb2 : ns ≤ cap 2 ∧ 32 ≤ cap 2 ∧ cap 2 ≤ 40000 := (hs.2.1 2 (by omega)).2.2
  have hb3 : nc ≤ cap 3 ∧ 32 ≤ cap 3 ∧ cap 3 ≤ 40000 := (hs.2.1 3 (by omega)).2.2
  have hb4 : np ≤ cap 4 ∧ 32 ≤ cap 4 ∧ cap 4 ≤ 40000 := (hs.2.1 4 (by omega)).2.2
  have hb5 : np ≤ cap 5 ∧ 32 ≤ cap 5 ∧ cap 5 ≤ 40000 := (hs.2.1 5 (by omega)).2.2
  have hb6 : no ≤ cap 6 ∧ 32 ≤ cap 6 ∧ cap 6 ≤ 40000 := (hs.2.1 6 (by omega)).2.2
  refine lv_aload_n hx hb dX8_pointCount_0 rfl (lv_at hl 0 rfl) ?_
  refine h_get (ci := 8) (v := .ref (RO 4)) (C := RX8) (T := TX8) (N := 8) hx hb hts kl_X8 hown hK hw hs.1 rfl 4 (by decide) (hts _ kf_X8_27) rfl rfl dX8_pointCount_1 ?_
  refine h_callV (n := 0) (ci := 6) (b := (RO 4)) (As := []) (rest := []) ⟨hx, hb, hml, hown, hts⟩ hK hw (c_X6_size l D dT ah s.heap.size (RO 4) (RA 4) (cap 4) np (f 4) (by omega) (by omega) (hs.2.1 4 (by omega)).1 (hs.2.1 4 (by omega)).2.1) ko_X6_size km_X8_43 ki_X6_size ks_X6_size kn_X6 (by decide +kernel) rfl (hs.2.1 4 (by omega)).1 rfl hl.1 rfl (by simp [Value.category]) dX8_pointCount_4 (by rw [hR]; exact ⟨rfl, rfl, Nat.le_of_ble_eq_true rfl, Nat.le_of_ble_eq_true rfl, by simp, by simp⟩) (fun r_1 ah_2 H_3 L_4 st_5 hp hw hst => ?_)
  obtain ⟨rfl, rfl⟩ := hp
  have hst : st_5 = [.int (nI np)] := hst
  subst hst
  rw [hQ]
  exact h_iret hx hb hr hlk hsz hw (by simp) (by simp) dX8_pointCount_7 ⟨rfl, rfl⟩

set_option maxHeartbeats 4000000 in
set_option maxRecDepth 100000 in
theorem c_X8_openCount (l : Launch) (D : va_G) (dT : Nat → ClassId) (ah : hA) (sz : Nat) (sh : Nat) (RO RA cap : Nat → Nat) (ns nc np no rc : Nat) (f : Nat → Nat → Int32) (hs : shA dT ah sh RO RA cap (v7 ns ns ns nc np np no) f rc) : hMet l yX8_openCount cX8_openCount 1 (some .int) ({ frames := 1, cells := 0, slots := 0, locals := 20 }) D dT [.ref sh] ah sz (fun r ah2 => r = some (.int (nI no)) ∧ ah = ah2) 0 0 := by
  refine h_met (by decide) (Nat.le_of_ble_eq_true rfl) ?_
  intro p e s m below meth c ls R Q args hav hR hQ hB hl hsz hw
  obtain ⟨hx, hb, hml, hr, hts, hown, hlk, hin, hK⟩ := hB
  have hown : s.vm.findClass RX8 = some m.cls := hown
  have hl : lv_has ls 1 [(0, .ref sh)] := hl
  have hb0 : ns ≤ cap 0 ∧ 32 ≤ cap 0 ∧ cap 0 ≤ 40000 := (hs.2.1 0 (by omega)).2.2
  have hb1 : ns ≤ cap 1 ∧ 32 ≤ cap 1 ∧ cap 1 ≤ 40000 := (hs.2.1 1 (by omega)).2.2
  have hb2 : ns ≤ cap 2 ∧ 32 ≤ cap 2 ∧ cap 2 ≤ 40000 := (hs.2.1 2 (by omega)).2.2
  have hb3 : nc ≤ cap 3 ∧ 32 ≤ cap 3 ∧ cap 3 ≤ 40000 := (hs.2.1 3 (by omega)).2.2
  have hb4 : np ≤ cap 4 ∧ 32 ≤ cap 4 ∧ cap 4 ≤ 40000 := (hs.2.1 4 (by omega)).2.2
  have hb5 : np ≤ cap 5 ∧ 32 ≤ cap 5 ∧ cap 5 ≤ 40000 := (hs.2.1 5 (by omega)).2.2
  have hb6 : no ≤ cap 6 ∧ 32 ≤ cap 6 ∧ cap 6 ≤ 40000 := (hs.2.1 6 (by omega)).2.2
  refine lv_aload_n hx hb dX8_openCount_0 rfl (lv_at hl 0 rfl) ?_
  refine h_get (ci := 8) (v := .ref (RO 6)) (C := RX8) (T := TX8) (N := 8) hx hb hts kl_X8 hown hK hw hs.1 rfl 6 (by decide) (hts _ kf_X8_33) rfl rfl dX8_openCount_1 ?_
  refine h_callV (n := 0) (ci := 6) (b := (RO 6)) (As := []) (rest := []) ⟨hx, hb, hml, hown, hts⟩ hK hw (c_X6_size l D dT ah s.heap.size (RO 6) (RA 6) (cap 6) no (f 6) (by omega) (by omega) (hs.2.1 6 (by omega)).1 (hs.2.1 6 (by omega)).2.1) ko_X6_size km_X8_43 ki_X6_size ks_X6_size kn_X6 (by decide +kernel) rfl (hs.2.1 6 (by omega)).1 rfl hl.1 rfl (by simp [Value.category]) dX8_openCount_4 (by rw [hR]; exact ⟨rfl, rfl, Nat.le_of_ble_eq_true rfl, Nat.le_of_ble_eq_true rfl, by simp, by simp⟩) (fun r_1 ah_2 H_3 L_4 st_5 hp hw hst => ?_)
  obtain ⟨rfl, rfl⟩ := hp
  have hst : st_5 = [.int (nI no)] := hst
  subst hst
  rw [hQ]
  exact h_iret hx hb hr hlk hsz hw (by simp) (by simp) dX8_openCount_7 ⟨rfl, rfl⟩

set_option maxHeartbeats 4000000 in
set_option maxRecDepth 100000 in
theorem c_X8_kind (l : Launch) (D : va_G) (dT : Nat → ClassId) (ah : hA) (sz : Nat) (sh : Nat) (RO RA cap : Nat → Nat) (ns nc np no rc : Nat) (f : Nat → Nat → Int32) (hs : shA dT ah sh RO RA cap (v7 ns ns ns nc np np no) f rc) (x : Int32) : hMet l yX8_kind cX8_kind 2 (some .int) ({ frames := 1, cells := 0, slots := 0, locals := 21 }) D dT [.ref sh, .int x] ah sz (fun r ah2 => r = some (.int (rwGet (f 0) ns x)) ∧ ah = ah2) 0 0 := by
  refine h_met (by decide) (Nat.le_of_ble_eq_true rfl) ?_
  intro p e s m below meth c ls R Q args hav hR hQ hB hl hsz hw
  obtain ⟨hx, hb, hml, hr, hts, hown, hlk, hin, hK⟩ := hB
  have hown : s.vm.findClass RX8 = some m.cls := hown
  have hl : lv_has ls 2 [(0, .ref sh), (1, .int x)] := hl
  have hb0 : ns ≤ cap 0 ∧ 32 ≤ cap 0 ∧ cap 0 ≤ 40000 := (hs.2.1 0 (by omega)).2.2
  have hb1 : ns ≤ cap 1 ∧ 32 ≤ cap 1 ∧ cap 1 ≤ 40000 := (hs.2.1 1 (by omega)).2.2
  have hb2 : ns ≤ cap 2 ∧ 32 ≤ cap 2 ∧ cap 2 ≤ 40000 := (hs.2.1 2 (by omega)).2.2
  have hb3 : nc ≤ cap 3 ∧ 32 ≤ cap 3 ∧ cap 3 ≤ 40000 := (hs.2.1 3 (by omega)).2.2
  have hb4 : np ≤ cap 4 ∧ 32 ≤ cap 4 ∧ cap 4 ≤ 40000 := (hs.2.1 4 (by omega)).2.2
  have hb5 : np ≤ cap 5 ∧ 32 ≤ cap 5 ∧ cap 5 ≤ 40000 := (hs.2.1 5 (by omega)).2.2
  have hb6 : no ≤ cap 6 ∧ 32 ≤ cap 6 ∧ cap 6 ≤ 40000 := (hs.2.1 6 (by omega)).2.2
  refine lv_aload_n hx hb dX8_kind_0 rfl (lv_at hl 0 rfl) ?_
  refine h_get (ci := 8) (v := .ref (RO 0)) (C := RX8) (T := TX8) (N := 8) hx hb hts kl_X8 hown hK hw hs.1 rfl 0 (by decide) (hts _ kf_X8_12) rfl rfl dX8_kind_1 ?_
  refine lv_iload_n hx hb dX8_kind_4 rfl (lv_at hl 1 rfl) ?_
  refine h_callV (n := 1) (ci := 6) (b := (RO 0)) (As := [.int x]) (rest := []) ⟨hx, hb, hml, hown, hts⟩ hK hw (c_X6_get l D dT ah s.heap.size (RO 0) (RA 0) (cap 0) ns (f 0) (by omega) (by omega) (hs.2.1 0 (by omega)).1 (hs.2.1 0 (by omega)).2.1 x) ko_X6_get km_X8_47 ki_X6_get ks_X6_get kn_X6 (by decide +kernel) rfl (hs.2.1 0 (by omega)).1 rfl hl.1 rfl (by simp [Value.category]) dX8_kind_5 (by rw [hR]; exact ⟨rfl, rfl, Nat.le_of_ble_eq_true rfl, Nat.le_of_ble_eq_true rfl, by simp, by simp⟩) (fun r_1 ah_2 H_3 L_4 st_5 hp hw hst => ?_)
  obtain ⟨rfl, rfl⟩ := hp
  have hst : st_5 = [.int (rwGet (f 0) ns x)] := hst
  subst hst
  rw [hQ]
  exact h_iret hx hb hr hlk hsz hw (by simp) (by simp) dX8_kind_8 ⟨rfl, rfl⟩

def shKind (f : Nat → Nat → Int32) (ns no : Nat) : Int32 := (if no ≤ 0 then 0 else rwGet (f 0) ns (rwGet (f 6) no (nI no - 1)))
set_option maxHeartbeats 4000000 in
set_option maxRecDepth 100000 in
theorem c_X8_openKind (l : Launch) (D : va_G) (dT : Nat → ClassId) (ah : hA) (sz : Nat) (sh : Nat) (RO RA cap : Nat → Nat) (ns nc np no rc : Nat) (f : Nat → Nat → Int32) (hs : shA dT ah sh RO RA cap (v7 ns ns ns nc np np no) f rc) : hMet l yX8_openKind cX8_openKind 1 (some .int) ({ frames := 2, cells := 0, slots := 0, locals := 41 }) D dT [.ref sh] ah sz (fun r ah2 => r = some (.int (shKind f ns no)) ∧ ah = ah2) 0 0 := by
  refine h_met (by decide) (Nat.le_of_ble_eq_true rfl) ?_
  intro p e s m below meth c ls R Q args hav hR hQ hB hl hsz hw
  obtain ⟨hx, hb, hml, hr, hts, hown, hlk, hin, hK⟩ := hB
  have hown : s.vm.findClass RX8 = some m.cls := hown
  have hl : lv_has ls 1 [(0, .ref sh)] := hl
  have hb0 : ns ≤ cap 0 ∧ 32 ≤ cap 0 ∧ cap 0 ≤ 40000 := (hs.2.1 0 (by omega)).2.2
  have hb1 : ns ≤ cap 1 ∧ 32 ≤ cap 1 ∧ cap 1 ≤ 40000 := (hs.2.1 1 (by omega)).2.2
  have hb2 : ns ≤ cap 2 ∧ 32 ≤ cap 2 ∧ cap 2 ≤ 40000 := (hs.2.1 2 (by omega)).2.2
  have hb3 : nc ≤ cap 3 ∧ 32 ≤ cap 3 ∧ cap 3 ≤ 40000 := (hs.2.1 3 (by omega)).2.2
  have hb4 : np ≤ cap 4 ∧ 32 ≤ cap 4 ∧ cap 4 ≤ 40000 := (hs.2.1 4 (by omega)).2.2
  have hb5 : np ≤ cap 5 ∧ 32 ≤ cap 5 ∧ cap 5 ≤ 40000 := (hs.2.1 5 (by omega)).2.2
  have hb6 : no ≤ cap 6 ∧ 32 ≤ cap 6 ∧ cap 6 ≤ 40000 := (hs.2.1 6 (by omega)).2.2
  refine lv_aload_n hx hb dX8_openKind_0 rfl (lv_at hl 0 rfl) ?_
  refine h_get (ci := 8) (v := .ref (RO 6)) (C := RX8) (T := TX8) (N := 8) hx hb hts kl_X8 hown hK hw hs.1 rfl 6 (by decide) (hts _ kf_X8_33) rfl rfl dX8_openKind_1 ?_
  refine h_callV (n := 0) (ci := 6) (b := (RO 6)) (As := []) (rest := []) ⟨hx, hb, hml, hown, hts⟩ hK hw (c_X6_size l D dT ah s.heap.size (RO 6) (RA 6) (cap 6) no (f 6) (by omega) (by omega) (hs.2.1 6 (by omega)).1 (hs.2.1 6 (by omega)).2.1) ko_X6_size km_X8_43 ki_X6_size ks_X6_size kn_X6 (by decide +kernel) rfl (hs.2.1 6 (by omega)).1 rfl hl.1 rfl (by simp [Value.category]) dX8_openKind_4 (by rw [hR]; exact ⟨rfl, rfl, Nat.le_of_ble_eq_true rfl, Nat.le_of_ble_eq_true rfl, by simp, by simp⟩) (fun r_1 ah_2 H_3 L_4 st_5 hp hw hst => ?_)
  obtain ⟨rfl, rfl⟩ := hp
  have hst : st_5 = [.int (nI no)] := hst
  subst hst
  refine lv_if_le (tgt := 27) hx hb dX8_openKind_7 (by decide) (fun c_6 => ?_) (fun c_6 => ?_)
  · skip
    have c_6 : no ≤ 0 := (nI_lex (by rfl) (by decide) (by omega) (by omega)).mp c_6
    refine lv_iconst (v := 0) hx hb dX8_openKind_27 (by decide) ?_
    have hv : 0 = shKind f ns no := by
      unfold shKind
      all_goals rw [if_pos c_6]
    rw [hQ]
    exact h_iret hx hb hr hlk hsz hw (by simp) (by simp) dX8_openKind_28 ⟨congrArg (fun z => some (Value.int z)) hv, rfl⟩
  · skip
    have c_6 : ¬ (no ≤ 0) := (not_congr (nI_lex (by rfl) (by decide) (by omega) (by omega))).mp c_6
    refine lv_aload_n hx hb dX8_openKind_10 rfl (lv_at hl 0 rfl) ?_
    refine h_get (ci := 8) (v := .ref (RO 0)) (C := RX8) (T := TX8) (N := 8) hx hb hts kl_X8 hown hK hw hs.1 rfl 0 (by decide) (hts _ kf_X8_12) rfl rfl dX8_openKind_11 ?_
    refine lv_aload_n hx hb dX8_openKind_14 rfl (lv_at hl 0 rfl) ?_
    refine h_get (ci := 8) (v := .ref (RO 6)) (C := RX8) (T := TX8) (N := 8) hx hb hts kl_X8 hown hK hw hs.1 rfl 6 (by decide) (hts _ kf_X8_33) rfl rfl dX8_openKind_15 ?_
    refine h_callV (n := 0) (ci := 6) (b := (RO 6)) (As := []) (rest := [.ref (RO 0)]) ⟨hx, hb, hml, hown, hts⟩ hK hw (c_X6_last l D dT ah H_3.size (RO 6) (RA 6) (cap 6) no (f 6) (by omega) (by omega) (hs.2.1 6 (by omega)).1 (hs.2.1 6 (by omega)).2.1) ko_X6_last km_X8_51 ki_X6_last ks_X6_last kn_X6 (by decide +kernel) rfl (hs.2.1 6 (by omega)).1 rfl hl.1 rfl (by simp [Value.category]) dX8_openKind_18 (by rw [hR]; exact ⟨rfl, rfl, Nat.le_of_ble_eq_true rfl, Nat.le_of_ble_eq_true rfl, by simp, by simp⟩) (fun r_7 ah_8 H_9 L_10 st_11 hp hw hst => ?_)
    obtain ⟨rfl, rfl⟩ := hp
    have hst : st_11 = [.int (rwGet (f 6) no (nI no - 1)), .ref (RO 0)] := hst
    subst hst
    refine h_callV (n := 1) (ci := 6) (b := (RO 0)) (As := [.int (rwGet (f 6) no (nI no - 1))]) (rest := []) ⟨hx, hb, hml, hown, hts⟩ hK hw (c_X6_get l D dT ah H_9.size (RO 0) (RA 0) (cap 0) ns (f 0) (by omega) (by omega) (hs.2.1 0 (by omega)).1 (hs.2.1 0 (by omega)).2.1 (rwGet (f 6) no (nI no - 1))) ko_X6_get km_X8_47 ki_X6_get ks_X6_get kn_X6 (by decide +kernel) rfl (hs.2.1 0 (by omega)).1 rfl hl.1 rfl (by simp [Value.category]) dX8_openKind_21 (by rw [hR]; exact ⟨rfl, rfl, Nat.le_of_ble_eq_true rfl, Nat.le_of_ble_eq_true rfl, by simp, by simp⟩) (fun r_12 ah_13 H_14 L_15 st_16 hp hw hst => ?_)
    obtain ⟨rfl, rfl⟩ := hp
    have hst : st_16 = [.int (rwGet (f 0) ns (rwGet (f 6) no (nI no - 1)))] := hst
    subst hst
    refine lv_goto (tgt := 28) hx hb dX8_openKind_24 (by decide) ?_
    have hv : rwGet (f 0) ns (rwGet (f 6) no (nI no - 1)) = shKind f ns no := by
      unfold shKind
      all_goals rw [if_neg c_6]
    rw [hQ]
    exact h_iret hx hb hr hlk hsz hw (by simp) (by simp) dX8_openKind_28 ⟨congrArg (fun z => some (Value.int z)) hv, rfl⟩

def shWhole (ns no : Nat) : Bool := (if ns ≤ 0 then false else (if no = 0 then true else false))
set_option maxHeartbeats 4000000 in
set_option maxRecDepth 100000 in
theorem c_X8_isWhole (l : Launch) (D : va_G) (dT : Nat → ClassId) (ah : hA) (sz : Nat) (sh : Nat) (RO RA cap : Nat → Nat) (ns nc np no rc : Nat) (f : Nat → Nat → Int32) (hs : shA dT ah sh RO RA cap (v7 ns ns ns nc np np no) f rc) : hMet l yX8_isWhole cX8_isWhole 1 (some .boolean) ({ frames := 1, cells := 0, slots := 0, locals := 20 }) D dT [.ref sh] ah sz (fun r ah2 => r = some (.int (bI (shWhole ns no))) ∧ ah = ah2) 0 0 := by
  refine h_met (by decide) (Nat.le_of_ble_eq_true rfl) ?_
  intro p e s m below meth c ls R Q args hav hR hQ hB hl hsz hw
  obtain ⟨hx, hb, hml, hr, hts, hown, hlk, hin, hK⟩ := hB
  have hown : s.vm.findClass RX8 = some m.cls := hown
  have hl : lv_has ls 1 [(0, .ref sh)] := hl
  have hb0 : ns ≤ cap 0 ∧ 32 ≤ cap 0 ∧ cap 0 ≤ 40000 := (hs.2.1 0 (by omega)).2.2
  have hb1 : ns ≤ cap 1 ∧ 32 ≤ cap 1 ∧ cap 1 ≤ 40000 := (hs.2.1 1 (by omega)).2.2
  have hb2 : ns ≤ cap 2 ∧ 32 ≤ cap 2 ∧ cap 2 ≤ 40000 := (hs.2.1 2 (by omega)).2.2
  have hb3 : nc ≤ cap 3 ∧ 32 ≤ cap 3 ∧ cap 3 ≤ 40000 := (hs.2.1 3 (by omega)).2.2
  have hb4 : np ≤ cap 4 ∧ 32 ≤ cap 4 ∧ cap 4 ≤ 40000 := (hs.2.1 4 (by omega)).2.2
  have hb5 : np ≤ cap 5 ∧ 32 ≤ cap 5 ∧ cap 5 ≤ 40000 := (hs.2.1 5 (by omega)).2.2
  have hb6 : no ≤ cap 6 ∧ 32 ≤ cap 6 ∧ cap 6 ≤ 40000 := (hs.2.1 6 (by omega)).2.2
  refine lv_aload_n hx hb dX8_isWhole_0 rfl (lv_at hl 0 rfl) ?_
  refine h_get (ci := 8) (v := .ref (RO 0)) (C := RX8) (T := TX8) (N := 8) hx hb hts kl_X8 hown hK hw hs.1 rfl 0 (by decide) (hts _ kf_X8_12) rfl rfl dX8_isWhole_1 ?_
  refine h_callV (n := 0) (ci := 6) (b := (RO 0)) (As := []) (rest := []) ⟨hx, hb, hml, hown, hts⟩ hK hw (c_X6_size l D dT ah s.heap.size (RO 0) (RA 0) (cap 0) ns (f 0) (by omega) (by omega) (hs.2.1 0 (by omega)).1 (hs.2.1 0 (by omega)).2.1) ko_X6_size km_X8_43 ki_X6_size ks_X6_size kn_X6 (by decide +kernel) rfl (hs.2.1 0 (by omega)).1 rfl hl.1 rfl (by simp [Value.category]) dX8_isWhole_4 (by rw [hR]; exact ⟨rfl, rfl, Nat.le_of_ble_eq_true rfl, Nat.le_of_ble_eq_true rfl, by simp, by simp⟩) (fun r_1 ah_2 H_3 L_4 st_5 hp hw hst => ?_)
  obtain ⟨rfl, rfl⟩ := hp
  have hst : st_5 = [.int (nI ns)] := hst
  subst hst
  refine lv_if_le (tgt := 24) hx hb dX8_isWhole_7 (by decide) (fun c_6 => ?_) (fun c_6 => ?_)
  · skip
    have c_6 : ns ≤ 0 := (nI_lex (by rfl) (by decide) (by omega) (by omega)).mp c_6
    refine lv_iconst (v := 0) hx hb dX8_isWhole_24 (by decide) ?_
    have hv : 0 = bI (shWhole ns no) := by
      unfold shWhole
      simp only [bI_if, bI_t, bI_f]
      all_goals rw [if_pos c_6]
    rw [hQ]
    exact h_zret hx hb hr hlk hsz hw (by simp) (by simp) dX8_isWhole_25 (bI_v hv) ⟨congrArg (fun z => some (Value.int z)) hv, rfl⟩
  · skip
    have c_6 : ¬ (ns ≤ 0) := (not_congr (nI_lex (by rfl) (by decide) (by omega) (by omega))).mp c_6
    refine lv_aload_n hx hb dX8_isWhole_10 rfl (lv_at hl 0 rfl) ?_
    refine h_get (ci := 8) (v := .ref (RO 6)) (C := RX8) (T := TX8) (N := 8) hx hb hts kl_X8 hown hK hw hs.1 rfl 6 (by decide) (hts _ kf_X8_33) rfl rfl dX8_isWhole_11 ?_
    refine h_callV (n := 0) (ci := 6) (b := (RO 6)) (As := []) (rest := []) ⟨hx, hb, hml, hown, hts⟩ hK hw (c_X6_size l D dT ah H_3.size (RO 6) (RA 6) (cap 6) no (f 6) (by omega) (by omega) (hs.2.1 6 (by omega)).1 (hs.2.1 6 (by omega)).2.1) ko_X6_size km_X8_43 ki_X6_size ks_X6_size kn_X6 (by decide +kernel) rfl (hs.2.1 6 (by omega)).1 rfl hl.1 rfl (by simp [Value.category]) dX8_isWhole_14 (by rw [hR]; exact ⟨rfl, rfl, Nat.le_of_ble_eq_true rfl, Nat.le_of_ble_eq_true rfl, by simp, by simp⟩) (fun r_7 ah_8 H_9 L_10 st_11 hp hw hst => ?_)
    obtain ⟨rfl, rfl⟩ := hp
    have hst : st_11 = [.int (nI no)] := hst
    subst hst
    have J_14 : ∀ (v_13 : Int32) (ls : Array Slot), lv_has ls 1 [(0, .ref sh)] → v_13 = (if no = 0 then 1 else 0) → W p l e R s m args below meth c H_9 L_10 (0 + 0 + 0) (0 + 0 + 0) Q (F0 m 25 ls [.int v_13]) := by
      intro v_13 ls hl ev_13
      have hv : v_13 = bI (shWhole ns no) := by
        subst ev_13
        unfold shWhole
        simp only [bI_if, bI_t, bI_f]
        all_goals rw [if_neg c_6]
      rw [hQ]
      exact h_zret hx hb hr hlk hsz hw (by simp) (by simp) dX8_isWhole_25 (bI_v hv) ⟨congrArg (fun z => some (Value.int z)) hv, rfl⟩
    refine lv_if_ne (tgt := 24) hx hb dX8_isWhole_17 (by decide) (fun c_12 => ?_) (fun c_12 => ?_)
    · skip
      have c_12 : ¬ (no = 0) := (not_congr (nI_eqx (by rfl) (by decide) (by omega) (by omega))).mp c_12
      refine lv_iconst (v := 0) hx hb dX8_isWhole_24 (by decide) ?_
      exact J_14 0 ls (lv_sub hl [0] rfl) (by rw [if_neg c_12])
    · skip
      have c_12 : no = 0 := (nI_eqx (by rfl) (by decide) (by omega) (by omega)).mp c_12
      refine lv_iconst (v := 1) hx hb dX8_isWhole_20 (by decide) ?_
      refine lv_goto (tgt := 25) hx hb dX8_isWhole_21 (by decide) ?_
      exact J_14 1 ls (lv_sub hl [0] rfl) (by rw [if_pos c_12])

def shTake (f : Nat → Nat → Int32) (ns no : Nat) (x : Int32) : Bool := (if ns = 0 then true else (if no < 50 then (if shKind f ns no = 7 then true else (if shKind f ns no < 4 then false else (if (x - 1) = (shKind f ns no - 4) then true else false))) else false))
set_option maxHeartbeats 4000000 in
set_option maxRecDepth 100000 in
theorem c_X8_canTake (l : Launch) (D : va_G) (dT : Nat → ClassId) (ah : hA) (sz : Nat) (sh : Nat) (RO RA cap : Nat → Nat) (ns nc np no rc : Nat) (f : Nat → Nat → Int32) (hs : shA dT ah sh RO RA cap (v7 ns ns ns nc np np no) f rc) (x : Int32) : hMet l yX8_canTake cX8_canTake 3 (some .boolean) ({ frames := 3, cells := 0, slots := 0, locals := 61 }) D dT [.ref sh, .int x] ah sz (fun r ah2 => r = some (.int (bI (shTake f ns no x))) ∧ ah = ah2) 0 0 := by
  refine h_met (by decide) (Nat.le_of_ble_eq_true rfl) ?_
  intro p e s m below meth c ls R Q args hav hR hQ hB hl hsz hw
  obtain ⟨hx, hb, hml, hr, hts, hown, hlk, hin, hK⟩ := hB
  have hown : s.vm.findClass RX8 = some m.cls := hown
  have hl : lv_has ls 3 [(0, .ref sh), (1, .int x)] := hl
  have hb0 : ns ≤ cap 0 ∧ 32 ≤ cap 0 ∧ cap 0 ≤ 40000 := (hs.2.1 0 (by omega)).2.2
  have hb1 : ns ≤ cap 1 ∧ 32 ≤ cap 1 ∧ cap 1 ≤ 40000 := (hs.2.1 1 (by omega)).2.2
  have hb2 : ns ≤ cap 2 ∧ 32 ≤ cap 2 ∧ cap 2 ≤ 40000 := (hs.2.1 2 (by omega)).2.2
  have hb3 : nc ≤ cap 3 ∧ 32 ≤ cap 3 ∧ cap 3 ≤ 40000 := (hs.2.1 3 (by omega)).2.2
  have hb4 : np ≤ cap 4 ∧ 32 ≤ cap 4 ∧ cap 4 ≤ 40000 := (hs.2.1 4 (by omega)).2.2
  have hb5 : np ≤ cap 5 ∧ 32 ≤ cap 5 ∧ cap 5 ≤ 40000 := (hs.2.1 5 (by omega)).2.2
  have hb6 : no ≤ cap 6 ∧ 32 ≤ cap 6 ∧ cap 6 ≤ 40000 := (hs.2.1 6 (by omega)).2.2
  refine lv_aload_n hx hb dX8_canTake_0 rfl (lv_at hl 0 rfl) ?_
  refine h_get (ci := 8) (v := .ref (RO 0)) (C := RX8) (T := TX8) (N := 8) hx hb hts kl_X8 hown hK hw hs.1 rfl 0 (by decide) (hts _ kf_X8_12) rfl rfl dX8_canTake_1 ?_
  refine h_callV (n := 0) (ci := 6) (b := (RO 0)) (As := []) (rest := []) ⟨hx, hb, hml, hown, hts⟩ hK hw (c_X6_size l D dT ah s.heap.size (RO 0) (RA 0) (cap 0) ns (f 0) (by omega) (by omega) (hs.2.1 0 (by omega)).1 (hs.2.1 0 (by omega)).2.1) ko_X6_size km_X8_43 ki_X6_size ks_X6_size kn_X6 (by decide +kernel) rfl (hs.2.1 0 (by omega)).1 rfl hl.1 rfl (by simp [Value.category]) dX8_canTake_4 (by rw [hR]; exact ⟨rfl, rfl, Nat.le_of_ble_eq_true rfl, Nat.le_of_ble_eq_true rfl, by simp, by simp⟩) (fun r_1 ah_2 H_3 L_4 st_5 hp hw hst => ?_)
  obtain ⟨rfl, rfl⟩ := hp
  have hst : st_5 = [.int (nI ns)] := hst
  subst hst
  refine lv_if_ne (tgt := 12) hx hb dX8_canTake_7 (by decide) (fun c_6 => ?_) (fun c_6 => ?_)
  · skip
    have c_6 : ¬ (ns = 0) := (not_congr (nI_eqx (by rfl) (by decide) (by omega) (by omega))).mp c_6
    refine lv_aload_n hx hb dX8_canTake_12 rfl (lv_at hl 0 rfl) ?_
    refine h_get (ci := 8) (v := .ref (RO 6)) (C := RX8) (T := TX8) (N := 8) hx hb hts kl_X8 hown hK hw hs.1 rfl 6 (by decide) (hts _ kf_X8_33) rfl rfl dX8_canTake_13 ?_
    refine h_callV (n := 0) (ci := 6) (b := (RO 6)) (As := []) (rest := []) ⟨hx, hb, hml, hown, hts⟩ hK hw (c_X6_size l D dT ah H_3.size (RO 6) (RA 6) (cap 6) no (f 6) (by omega) (by omega) (hs.2.1 6 (by omega)).1 (hs.2.1 6 (by omega)).2.1) ko_X6_size km_X8_43 ki_X6_size ks_X6_size kn_X6 (by decide +kernel) rfl (hs.2.1 6 (by omega)).1 rfl hl.1 rfl (by simp [Value.category]) dX8_canTake_16 (by rw [hR]; exact ⟨rfl, rfl, Nat.le_of_ble_eq_true rfl, Nat.le_of_ble_eq_true rfl, by simp, by simp⟩) (fun r_7 ah_8 H_9 L_10 st_11 hp hw hst => ?_)
    obtain ⟨rfl, rfl⟩ := hp
    have hst : st_11 = [.int (nI no)] := hst
    subst hst
    refine lv_bipush (v := 50) hx hb dX8_canTake_19 (by decide) ?_
    refine lv_icmp_lt (tgt := 26) hx hb dX8_canTake_21 (by decide) (fun c_12 => ?_) (fun c_12 => ?_)
    · skip
      have c_12 : no < 50 := (nI_ltx (by rfl) (by decide) (by omega) (by omega)).mp c_12
      refine lv_aload_n hx hb dX8_canTake_26 rfl (lv_at hl 0 rfl) ?_
      refine h_callV (n := 0) (ci := 8) (b := sh) (As := []) (rest := []) ⟨hx, hb, hml, hown, hts⟩ hK hw (c_X8_openKind l D dT ah H_9.size sh RO RA cap ns nc np no rc f hs) ko_X8_openKind km_X8_54 ki_X8_openKind ks_X8_openKind kn_X8 (by decide +kernel) rfl hs.1 rfl hl.1 rfl (by simp [Value.category]) dX8_canTake_27 (by rw [hR]; exact ⟨rfl, rfl, Nat.le_of_ble_eq_true rfl, Nat.le_of_ble_eq_true rfl, by simp, by simp⟩) (fun r_13 ah_14 H_15 L_16 st_17 hp hw hst => ?_)
      obtain ⟨rfl, rfl⟩ := hp
      have hst : st_17 = [.int (shKind f ns no)] := hst
      subst hst
      refine lv_istore_n (lv' := [(2, .int (shKind f ns no)), (0, .ref sh), (1, .int x)]) hx hb dX8_canTake_30 rfl hl (by decide) rfl (fun ls hl => ?_)
      refine lv_iload_n hx hb dX8_canTake_31 rfl (lv_at hl 0 rfl) ?_
      refine lv_bipush (v := 7) hx hb dX8_canTake_32 (by decide) ?_
      refine lv_icmp_ne (tgt := 39) hx hb dX8_canTake_34 (by decide) (fun c_18 => ?_) (fun c_18 => ?_)
      · skip
        refine lv_iload_n hx hb dX8_canTake_39 rfl (lv_at hl 0 rfl) ?_
        refine lv_iconst (v := 4) hx hb dX8_canTake_40 (by decide) ?_
        have J_22 : ∀ (v_21 : Int32) (ls : Array Slot), lv_has ls 3 [(2, .int (shKind f ns no)), (0, .ref sh), (1, .int x)] → v_21 = (if shKind f ns no < 4 then 0 else (if (x - 1) = (shKind f ns no - 4) then 1 else 0)) → W p l e R s m args below meth c H_15 L_16 (0 + 0 + 0 + 0) (0 + 0 + 0 + 0) Q (F0 m 58 ls [.int v_21]) := by
          intro v_21 ls hl ev_21
          have hv : v_21 = bI (shTake f ns no x) := by
            subst ev_21
            unfold shTake
            simp only [bI_if, bI_t, bI_f]
            all_goals rw [if_neg c_6, if_pos c_12, if_neg c_18]
          rw [hQ]
          exact h_zret hx hb hr hlk hsz hw (by simp) (by simp) dX8_canTake_58 (bI_v hv) ⟨congrArg (fun z => some (Value.int z)) hv, rfl⟩
        refine lv_icmp_lt (tgt := 57) hx hb dX8_canTake_41 (by decide) (fun c_19 => ?_) (fun c_19 => ?_)
        · skip
          refine lv_iconst (v := 0) hx hb dX8_canTake_57 (by decide) ?_
          exact J_22 0 ls (lv_sub hl [0, 1, 2] rfl) (by rw [if_pos c_19])
        · skip
          refine lv_iload_n hx hb dX8_canTake_44 rfl (lv_at hl 2 rfl) ?_
          refine lv_iconst (v := 1) hx hb dX8_canTake_45 (by decide) ?_
          refine lv_isub hx hb dX8_canTake_46 ?_
          refine lv_iload_n hx hb dX8_canTake_47 rfl (lv_at hl 0 rfl) ?_
          refine lv_iconst (v := 4) hx hb dX8_canTake_48 (by decide) ?_
          refine lv_isub hx hb dX8_canTake_49 ?_
          refine lv_icmp_ne (tgt := 57) hx hb dX8_canTake_50 (by decide) (fun c_20 => ?_) (fun c_20 => ?_)
          · skip
            refine lv_iconst (v := 0) hx hb dX8_canTake_57 (by decide) ?_
            exact J_22 0 ls (lv_sub hl [0, 1, 2] rfl) (by rw [if_neg c_19, if_neg c_20])
          · skip
            refine lv_iconst (v := 1) hx hb dX8_canTake_53 (by decide) ?_
            refine lv_goto (tgt := 58) hx hb dX8_canTake_54 (by decide) ?_
            exact J_22 1 ls (lv_sub hl [0, 1, 2] rfl) (by rw [if_neg c_19, if_pos c_20])
      · skip
        refine lv_iconst (v := 1) hx hb dX8_canTake_37 (by decide) ?_
        have hv : 1 = bI (shTake f ns no x) := by
          unfold shTake
          simp only [bI_if, bI_t, bI_f]
          all_goals rw [if_neg c_6, if_pos c_12, if_pos c_18]
        rw [hQ]
        exact h_zret hx hb hr hlk hsz hw (by simp) (by simp) dX8_canTake_38 (bI_v hv) ⟨congrArg (fun z => some (Value.int z)) hv, rfl⟩
    · skip
      have c_12 : ¬ (no < 50) := (not_congr (nI_ltx (by rfl) (by decide) (by omega) (by omega))).mp c_12
      refine lv_iconst (v := 0) hx hb dX8_canTake_24 (by decide) ?_
      have hv : 0 = bI (shTake f ns no x) := by
        unfold shTake
        simp only [bI_if, bI_t, bI_f]
        all_goals rw [if_neg c_6, if_neg c_12]
      rw [hQ]
      exact h_zret hx hb hr hlk hsz hw (by simp) (by simp) dX8_canTake_25 (bI_v hv) ⟨congrArg (fun z => some (Value.int z)) hv, rfl⟩
  · skip
    have c_6 : ns = 0 := (nI_eqx (by rfl) (by decide) (by omega) (by omega)).mp c_6
    refine lv_iconst (v := 1) hx hb dX8_canTake_10 (by decide) ?_
    have hv : 1 = bI (shTake f ns no x) := by
      unfold shTake
      simp only [bI_if, bI_t, bI_f]
      all_goals rw [if_pos c_6]
    rw [hQ]
    exact h_zret hx hb hr hlk hsz hw (by simp) (by simp) dX8_canTake_11 (bI_v hv) ⟨congrArg (fun z => some (Value.int z)) hv, rfl⟩

def shTakeP (f : Nat → Nat → Int32) (ns nc np no : Nat) : Bool := (if shKind f ns no = 1 then (if rwGet (f 3) nc (nI nc - 1) = nI np then true else false) else (if shKind f ns no = 3 then (if nI nc ≤ rwGet (f 2) ns (rwGet (f 6) no (nI no - 1)) then false else true) else (if shKind f ns no = 2 then true else false)))
set_option maxHeartbeats 4000000 in
set_option maxRecDepth 100000 in
theorem c_X8_canTakePoint (l : Launch) (D : va_G) (dT : Nat → ClassId) (ah : hA) (sz : Nat) (sh : Nat) (RO RA cap : Nat → Nat) (ns nc np no rc : Nat) (f : Nat → Nat → Int32) (hs : shA dT ah sh RO RA cap (v7 ns ns ns nc np np no) f rc) : hMet l yX8_canTakePoint cX8_canTakePoint 2 (some .boolean) ({ frames := 3, cells := 0, slots := 0, locals := 61 }) D dT [.ref sh] ah sz (fun r ah2 => r = some (.int (bI (shTakeP f ns nc np no))) ∧ ah = ah2) 0 0 := by
  refine h_met (by decide) (Nat.le_of_ble_eq_true rfl) ?_
  intro p e s m below meth c ls R Q args hav hR hQ hB hl hsz hw
  obtain ⟨hx, hb, hml, hr, hts, hown, hlk, hin, hK⟩ := hB
  have hown : s.vm.findClass RX8 = some m.cls := hown
  have hl : lv_has ls 2 [(0, .ref sh)] := hl
  have hb0 : ns ≤ cap 0 ∧ 32 ≤ cap 0 ∧ cap 0 ≤ 40000 := (hs.2.1 0 (by omega)).2.2
  have hb1 : ns ≤ cap 1 ∧ 32 ≤ cap 1 ∧ cap 1 ≤ 40000 := (hs.2.1 1 (by omega)).2.2
  have hb2 : ns ≤ cap 2 ∧ 32 ≤ cap 2 ∧ cap 2 ≤ 40000 := (hs.2.1 2 (by omega)).2.2
  have hb3 : nc ≤ cap 3 ∧ 32 ≤ cap 3 ∧ cap 3 ≤ 40000 := (hs.2.1 3 (by omega)).2.2
  have hb4 : np ≤ cap 4 ∧ 32 ≤ cap 4 ∧ cap 4 ≤ 40000 := (hs.2.1 4 (by omega)).2.2
  have hb5 : np ≤ cap 5 ∧ 32 ≤ cap 5 ∧ cap 5 ≤ 40000 := (hs.2.1 5 (by omega)).2.2
  have hb6 : no ≤ cap 6 ∧ 32 ≤ cap 6 ∧ cap 6 ≤ 40000 := (hs.2.1 6 (by omega)).2.2
  refine lv_aload_n hx hb dX8_canTakePoint_0 rfl (lv_at hl 0 rfl) ?_
  refine h_callV (n := 0) (ci := 8) (b := sh) (As := []) (rest := []) ⟨hx, hb, hml, hown, hts⟩ hK hw (c_X8_openKind l D dT ah s.heap.size sh RO RA cap ns nc np no rc f hs) ko_X8_openKind km_X8_54 ki_X8_openKind ks_X8_openKind kn_X8 (by decide +kernel) rfl hs.1 rfl hl.1 rfl (by simp [Value.category]) dX8_canTakePoint_1 (by rw [hR]; exact ⟨rfl, rfl, Nat.le_of_ble_eq_true rfl, Nat.le_of_ble_eq_true rfl, by simp, by simp⟩) (fun r_1 ah_2 H_3 L_4 st_5 hp hw hst => ?_)
  obtain ⟨rfl, rfl⟩ := hp
  have hst : st_5 = [.int (shKind f ns no)] := hst
  subst hst
  refine lv_istore_n (lv' := [(1, .int (shKind f ns no)), (0, .ref sh)]) hx hb dX8_canTakePoint_4 rfl hl (by decide) rfl (fun ls hl => ?_)
  refine lv_iload_n hx hb dX8_canTakePoint_5 rfl (lv_at hl 0 rfl) ?_
  refine lv_iconst (v := 1) hx hb dX8_canTakePoint_6 (by decide) ?_
  refine lv_icmp_ne (tgt := 33) hx hb dX8_canTakePoint_7 (by decide) (fun c_6 => ?_) (fun c_6 => ?_)
  · skip
    refine lv_iload_n hx hb dX8_canTakePoint_33 rfl (lv_at hl 0 rfl) ?_
    refine lv_iconst (v := 3) hx hb dX8_canTakePoint_34 (by decide) ?_
    refine lv_icmp_ne (tgt := 68) hx hb dX8_canTakePoint_35 (by decide) (fun c_7 => ?_) (fun c_7 => ?_)
    · skip
      refine lv_iload_n hx hb dX8_canTakePoint_68 rfl (lv_at hl 0 rfl) ?_
      refine lv_iconst (v := 2) hx hb dX8_canTakePoint_69 (by decide) ?_
      have J_10 : ∀ (v_9 : Int32) (ls : Array Slot), lv_has ls 2 [(1, .int (shKind f ns no)), (0, .ref sh)] → v_9 = (if shKind f ns no = 2 then 1 else 0) → W p l e R s m args below meth c H_3 L_4 (0 + 0) (0 + 0) Q (F0 m 78 ls [.int v_9]) := by
        intro v_9 ls hl ev_9
        have hv : v_9 = bI (shTakeP f ns nc np no) := by
          subst ev_9
          unfold shTakeP
          simp only [bI_if, bI_t, bI_f]
          all_goals rw [if_neg c_6, if_neg c_7]
        rw [hQ]
        exact h_zret hx hb hr hlk hsz hw (by simp) (by simp) dX8_canTakePoint_78 (bI_v hv) ⟨congrArg (fun z => some (Value.int z)) hv, rfl⟩
      refine lv_icmp_ne (tgt := 77) hx hb dX8_canTakePoint_70 (by decide) (fun c_8 => ?_) (fun c_8 => ?_)
      · skip
        refine lv_iconst (v := 0) hx hb dX8_canTakePoint_77 (by decide) ?_
        exact J_10 0 ls (lv_sub hl [0, 1] rfl) (by rw [if_neg c_8])
      · skip
        refine lv_iconst (v := 1) hx hb dX8_canTakePoint_73 (by decide) ?_
        refine lv_goto (tgt := 78) hx hb dX8_canTakePoint_74 (by decide) ?_
        exact J_10 1 ls (lv_sub hl [0, 1] rfl) (by rw [if_pos c_8])
    · skip
      refine lv_aload_n hx hb dX8_canTakePoint_38 rfl (lv_at hl 1 rfl) ?_
      refine h_get (ci := 8) (v := .ref (RO 2)) (C := RX8) (T := TX8) (N := 8) hx hb hts kl_X8 hown hK hw hs.1 rfl 2 (by decide) (hts _ kf_X8_21) rfl rfl dX8_canTakePoint_39 ?_
      refine lv_aload_n hx hb dX8_canTakePoint_42 rfl (lv_at hl 1 rfl) ?_
      refine h_get (ci := 8) (v := .ref (RO 6)) (C := RX8) (T := TX8) (N := 8) hx hb hts kl_X8 hown hK hw hs.1 rfl 6 (by decide) (hts _ kf_X8_33) rfl rfl dX8_canTakePoint_43 ?_
      refine h_callV (n := 0) (ci := 6) (b := (RO 6)) (As := []) (rest := [.ref (RO 2)]) ⟨hx, hb, hml, hown, hts⟩ hK hw (c_X6_last l D dT ah H_3.size (RO 6) (RA 6) (cap 6) no (f 6) (by omega) (by omega) (hs.2.1 6 (by omega)).1 (hs.2.1 6 (by omega)).2.1) ko_X6_last km_X8_51 ki_X6_last ks_X6_last kn_X6 (by decide +kernel) rfl (hs.2.1 6 (by omega)).1 rfl hl.1 rfl (by simp [Value.category]) dX8_canTakePoint_46 (by rw [hR]; exact ⟨rfl, rfl, Nat.le_of_ble_eq_true rfl, Nat.le_of_ble_eq_true rfl, by simp, by simp⟩) (fun r_11 ah_12 H_13 L_14 st_15 hp hw hst => ?_)
      obtain ⟨rfl, rfl⟩ := hp
      have hst : st_15 = [.int (rwGet (f 6) no (nI no - 1)), .ref (RO 2)] := hst
      subst hst
      refine h_callV (n := 1) (ci := 6) (b := (RO 2)) (As := [.int (rwGet (f 6) no (nI no - 1))]) (rest := []) ⟨hx, hb, hml, hown, hts⟩ hK hw (c_X6_get l D dT ah H_13.size (RO 2) (RA 2) (cap 2) ns (f 2) (by omega) (by omega) (hs.2.1 2 (by omega)).1 (hs.2.1 2 (by omega)).2.1 (rwGet (f 6) no (nI no - 1))) ko_X6_get km_X8_47 ki_X6_get ks_X6_get kn_X6 (by decide +kernel) rfl (hs.2.1 2 (by omega)).1 rfl hl.1 rfl (by simp [Value.category]) dX8_canTakePoint_49 (by rw [hR]; exact ⟨rfl, rfl, Nat.le_of_ble_eq_true rfl, Nat.le_of_ble_eq_true rfl, by simp, by simp⟩) (fun r_16 ah_17 H_18 L_19 st_20 hp hw hst => ?_)
      obtain ⟨rfl, rfl⟩ := hp
      have hst : st_20 = [.int (rwGet (f 2) ns (rwGet (f 6) no (nI no - 1)))] := hst
      subst hst
      refine lv_aload_n hx hb dX8_canTakePoint_52 rfl (lv_at hl 1 rfl) ?_
      refine h_get (ci := 8) (v := .ref (RO 3)) (C := RX8) (T := TX8) (N := 8) hx hb hts kl_X8 hown hK hw hs.1 rfl 3 (by decide) (hts _ kf_X8_24) rfl rfl dX8_canTakePoint_53 ?_
      refine h_callV (n := 0) (ci := 6) (b := (RO 3)) (As := []) (rest := [.int (rwGet (f 2) ns (rwGet (f 6) no (nI no - 1)))]) ⟨hx, hb, hml, hown, hts⟩ hK hw (c_X6_size l D dT ah H_18.size (RO 3) (RA 3) (cap 3) nc (f 3) (by omega) (by omega) (hs.2.1 3 (by omega)).1 (hs.2.1 3 (by omega)).2.1) ko_X6_size km_X8_43 ki_X6_size ks_X6_size kn_X6 (by decide +kernel) rfl (hs.2.1 3 (by omega)).1 rfl hl.1 rfl (by simp [Value.category]) dX8_canTakePoint_56 (by rw [hR]; exact ⟨rfl, rfl, Nat.le_of_ble_eq_true rfl, Nat.le_of_ble_eq_true rfl, by simp, by simp⟩) (fun r_21 ah_22 H_23 L_24 st_25 hp hw hst => ?_)
      obtain ⟨rfl, rfl⟩ := hp
      have hst : st_25 = [.int (nI nc), .int (rwGet (f 2) ns (rwGet (f 6) no (nI no - 1)))] := hst
      subst hst
      have J_28 : ∀ (v_27 : Int32) (ls : Array Slot), lv_has ls 2 [(1, .int (shKind f ns no)), (0, .ref sh)] → v_27 = (if nI nc ≤ rwGet (f 2) ns (rwGet (f 6) no (nI no - 1)) then 0 else 1) → W p l e R s m args below meth c H_23 L_24 (0 + 0 + 0 + 0 + 0) (0 + 0 + 0 + 0 + 0) Q (F0 m 67 ls [.int v_27]) := by
        intro v_27 ls hl ev_27
        have hv : v_27 = bI (shTakeP f ns nc np no) := by
          subst ev_27
          unfold shTakeP
          simp only [bI_if, bI_t, bI_f]
          all_goals rw [if_neg c_6, if_pos c_7]
        rw [hQ]
        exact h_zret hx hb hr hlk hsz hw (by simp) (by simp) dX8_canTakePoint_67 (bI_v hv) ⟨congrArg (fun z => some (Value.int z)) hv, rfl⟩
      refine lv_icmp_ge (tgt := 66) hx hb dX8_canTakePoint_59 (by decide) (fun c_26 => ?_) (fun c_26 => ?_)
      · skip
        refine lv_iconst (v := 0) hx hb dX8_canTakePoint_66 (by decide) ?_
        exact J_28 0 ls (lv_sub hl [0, 1] rfl) (by rw [if_pos c_26])
      · skip
        refine lv_iconst (v := 1) hx hb dX8_canTakePoint_62 (by decide) ?_
        refine lv_goto (tgt := 67) hx hb dX8_canTakePoint_63 (by decide) ?_
        exact J_28 1 ls (lv_sub hl [0, 1] rfl) (by rw [if_neg c_26])
  · skip
    refine lv_aload_n hx hb dX8_canTakePoint_10 rfl (lv_at hl 1 rfl) ?_
    refine h_get (ci := 8) (v := .ref (RO 3)) (C := RX8) (T := TX8) (N := 8) hx hb hts kl_X8 hown hK hw hs.1 rfl 3 (by decide) (hts _ kf_X8_24) rfl rfl dX8_canTakePoint_11 ?_
    refine h_callV (n := 0) (ci := 6) (b := (RO 3)) (As := []) (rest := []) ⟨hx, hb, hml, hown, hts⟩ hK hw (c_X6_last l D dT ah H_3.size (RO 3) (RA 3) (cap 3) nc (f 3) (by omega) (by omega) (hs.2.1 3 (by omega)).1 (hs.2.1 3 (by omega)).2.1) ko_X6_last km_X8_51 ki_X6_last ks_X6_last kn_X6 (by decide +kernel) rfl (hs.2.1 3 (by omega)).1 rfl hl.1 rfl (by simp [Value.category]) dX8_canTakePoint_14 (by rw [hR]; exact ⟨rfl, rfl, Nat.le_of_ble_eq_true rfl, Nat.le_of_ble_eq_true rfl, by simp, by simp⟩) (fun r_29 ah_30 H_31 L_32 st_33 hp hw hst => ?_)
    obtain ⟨rfl, rfl⟩ := hp
    have hst : st_33 = [.int (rwGet (f 3) nc (nI nc - 1))] := hst
    subst hst
    refine lv_aload_n hx hb dX8_canTakePoint_17 rfl (lv_at hl 1 rfl) ?_
    refine h_get (ci := 8) (v := .ref (RO 4)) (C := RX8) (T := TX8) (N := 8) hx hb hts kl_X8 hown hK hw hs.1 rfl 4 (by decide) (hts _ kf_X8_27) rfl rfl dX8_canTakePoint_18 ?_
    refine h_callV (n := 0) (ci := 6) (b := (RO 4)) (As := []) (rest := [.int (rwGet (f 3) nc (nI nc - 1))]) ⟨hx, hb, hml, hown, hts⟩ hK hw (c_X6_size l D dT ah H_31.size (RO 4) (RA 4) (cap 4) np (f 4) (by omega) (by omega) (hs.2.1 4 (by omega)).1 (hs.2.1 4 (by omega)).2.1) ko_X6_size km_X8_43 ki_X6_size ks_X6_size kn_X6 (by decide +kernel) rfl (hs.2.1 4 (by omega)).1 rfl hl.1 rfl (by simp [Value.category]) dX8_canTakePoint_21 (by rw [hR]; exact ⟨rfl, rfl, Nat.le_of_ble_eq_true rfl, Nat.le_of_ble_eq_true rfl, by simp, by simp⟩) (fun r_34 ah_35 H_36 L_37 st_38 hp hw hst => ?_)
    obtain ⟨rfl, rfl⟩ := hp
    have hst : st_38 = [.int (nI np), .int (rwGet (f 3) nc (nI nc - 1))] := hst
    subst hst
    have J_41 : ∀ (v_40 : Int32) (ls : Array Slot), lv_has ls 2 [(1, .int (shKind f ns no)), (0, .ref sh)] → v_40 = (if rwGet (f 3) nc (nI nc - 1) = nI np then 1 else 0) → W p l e R s m args below meth c H_36 L_37 (0 + 0 + 0 + 0) (0 + 0 + 0 + 0) Q (F0 m 32 ls [.int v_40]) := by
      intro v_40 ls hl ev_40
      have hv : v_40 = bI (shTakeP f ns nc np no) := by
        subst ev_40
        unfold shTakeP
        simp only [bI_if, bI_t, bI_f]
        all_goals rw [if_pos c_6]
      rw [hQ]
      exact h_zret hx hb hr hlk hsz hw (by simp) (by simp) dX8_canTakePoint_32 (bI_v hv) ⟨congrArg (fun z => some (Value.int z)) hv, rfl⟩
    refine lv_icmp_ne (tgt := 31) hx hb dX8_canTakePoint_24 (by decide) (fun c_39 => ?_) (fun c_39 => ?_)
    · skip
      refine lv_iconst (v := 0) hx hb dX8_canTakePoint_31 (by decide) ?_
      exact J_41 0 ls (lv_sub hl [0, 1] rfl) (by rw [if_neg c_39])
    · skip
      refine lv_iconst (v := 1) hx hb dX8_canTakePoint_27 (by decide) ?_
      refine lv_goto (tgt := 32) hx hb dX8_canTakePoint_28 (by decide) ?_
      exact J_41 1 ls (lv_sub hl [0, 1] rfl) (by rw [if_pos c_39])

def shSame (f : Nat → Nat → Int32) (np : Nat) (x y : Int32) : Bool := (if rwGet (f 4) np x = rwGet (f 4) np y then (if rwGet (f 5) np x = rwGet (f 5) np y then true else false) else false)
set_option maxHeartbeats 4000000 in
set_option maxRecDepth 100000 in
theorem c_X8_isSame (l : Launch) (D : va_G) (dT : Nat → ClassId) (ah : hA) (sz : Nat) (sh : Nat) (RO RA cap : Nat → Nat) (ns nc np no rc : Nat) (f : Nat → Nat → Int32) (hs : shA dT ah sh RO RA cap (v7 ns ns ns nc np np no) f rc) (x y : Int32) : hMet l yX8_isSame cX8_isSame 3 (some .boolean) ({ frames := 1, cells := 0, slots := 0, locals := 21 }) D dT [.ref sh, .int x, .int y] ah sz (fun r ah2 => r = some (.int (bI (shSame f np x y))) ∧ ah = ah2) 0 0 := by
  refine h_met (by decide) (Nat.le_of_ble_eq_true rfl) ?_
  intro p e s m below meth c ls R Q args hav hR hQ hB hl hsz hw
  obtain ⟨hx, hb, hml, hr, hts, hown, hlk, hin, hK⟩ := hB
  have hown : s.vm.findClass RX8 = some m.cls := hown
  have hl : lv_has ls 3 [(0, .ref sh), (1, .int x), (2, .int y)] := hl
  have hb0 : ns ≤ cap 0 ∧ 32 ≤ cap 0 ∧ cap 0 ≤ 40000 := (hs.2.1 0 (by omega)).2.2
  have hb1 : ns ≤ cap 1 ∧ 32 ≤ cap 1 ∧ cap 1 ≤ 40000 := (hs.2.1 1 (by omega)).2.2
  have hb2 : ns ≤ cap 2 ∧ 32 ≤ cap 2 ∧ cap 2 ≤ 40000 := (hs.2.1 2 (by omega)).2.2
  have hb3 : nc ≤ cap 3 ∧ 32 ≤ cap 3 ∧ cap 3 ≤ 40000 := (hs.2.1 3 (by omega)).2.2
  have hb4 : np ≤ cap 4 ∧ 32 ≤ cap 4 ∧ cap 4 ≤ 40000 := (hs.2.1 4 (by omega)).2.2
  have hb5 : np ≤ cap 5 ∧ 32 ≤ cap 5 ∧ cap 5 ≤ 40000 := (hs.2.1 5 (by omega)).2.2
  have hb6 : no ≤ cap 6 ∧ 32 ≤ cap 6 ∧ cap 6 ≤ 40000 := (hs.2.1 6 (by omega)).2.2
  refine lv_aload_n hx hb dX8_isSame_0 rfl (lv_at hl 0 rfl) ?_
  refine h_get (ci := 8) (v := .ref (RO 4)) (C := RX8) (T := TX8) (N := 8) hx hb hts kl_X8 hown hK hw hs.1 rfl 4 (by decide) (hts _ kf_X8_27) rfl rfl dX8_isSame_1 ?_
  refine lv_iload_n hx hb dX8_isSame_4 rfl (lv_at hl 1 rfl) ?_
  refine h_callV (n := 1) (ci := 6) (b := (RO 4)) (As := [.int x]) (rest := []) ⟨hx, hb, hml, hown, hts⟩ hK hw (c_X6_get l D dT ah s.heap.size (RO 4) (RA 4) (cap 4) np (f 4) (by omega) (by omega) (hs.2.1 4 (by omega)).1 (hs.2.1 4 (by omega)).2.1 x) ko_X6_get km_X8_47 ki_X6_get ks_X6_get kn_X6 (by decide +kernel) rfl (hs.2.1 4 (by omega)).1 rfl hl.1 rfl (by simp [Value.category]) dX8_isSame_5 (by rw [hR]; exact ⟨rfl, rfl, Nat.le_of_ble_eq_true rfl, Nat.le_of_ble_eq_true rfl, by simp, by simp⟩) (fun r_1 ah_2 H_3 L_4 st_5 hp hw hst => ?_)
  obtain ⟨rfl, rfl⟩ := hp
  have hst : st_5 = [.int (rwGet (f 4) np x)] := hst
  subst hst
  refine lv_aload_n hx hb dX8_isSame_8 rfl (lv_at hl 0 rfl) ?_
  refine h_get (ci := 8) (v := .ref (RO 4)) (C := RX8) (T := TX8) (N := 8) hx hb hts kl_X8 hown hK hw hs.1 rfl 4 (by decide) (hts _ kf_X8_27) rfl rfl dX8_isSame_9 ?_
  refine lv_iload_n hx hb dX8_isSame_12 rfl (lv_at hl 2 rfl) ?_
  refine h_callV (n := 1) (ci := 6) (b := (RO 4)) (As := [.int y]) (rest := [.int (rwGet (f 4) np x)]) ⟨hx, hb, hml, hown, hts⟩ hK hw (c_X6_get l D dT ah H_3.size (RO 4) (RA 4) (cap 4) np (f 4) (by omega) (by omega) (hs.2.1 4 (by omega)).1 (hs.2.1 4 (by omega)).2.1 y) ko_X6_get km_X8_47 ki_X6_get ks_X6_get kn_X6 (by decide +kernel) rfl (hs.2.1 4 (by omega)).1 rfl hl.1 rfl (by simp [Value.category]) dX8_isSame_13 (by rw [hR]; exact ⟨rfl, rfl, Nat.le_of_ble_eq_true rfl, Nat.le_of_ble_eq_true rfl, by simp, by simp⟩) (fun r_6 ah_7 H_8 L_9 st_10 hp hw hst => ?_)
  obtain ⟨rfl, rfl⟩ := hp
  have hst : st_10 = [.int (rwGet (f 4) np y), .int (rwGet (f 4) np x)] := hst
  subst hst
  refine lv_icmp_ne (tgt := 42) hx hb dX8_isSame_16 (by decide) (fun c_11 => ?_) (fun c_11 => ?_)
  · skip
    refine lv_iconst (v := 0) hx hb dX8_isSame_42 (by decide) ?_
    have hv : 0 = bI (shSame f np x y) := by
      unfold shSame
      simp only [bI_if, bI_t, bI_f]
      all_goals rw [if_neg c_11]
    rw [hQ]
    exact h_zret hx hb hr hlk hsz hw (by simp) (by simp) dX8_isSame_43 (bI_v hv) ⟨congrArg (fun z => some (Value.int z)) hv, rfl⟩
  · skip
    refine lv_aload_n hx hb dX8_isSame_19 rfl (lv_at hl 0 rfl) ?_
    refine h_get (ci := 8) (v := .ref (RO 5)) (C := RX8) (T := TX8) (N := 8) hx hb hts kl_X8 hown hK hw hs.1 rfl 5 (by decide) (hts _ kf_X8_30) rfl rfl dX8_isSame_20 ?_
    refine lv_iload_n hx hb dX8_isSame_23 rfl (lv_at hl 1 rfl) ?_
    refine h_callV (n := 1) (ci := 6) (b := (RO 5)) (As := [.int x]) (rest := []) ⟨hx, hb, hml, hown, hts⟩ hK hw (c_X6_get l D dT ah H_8.size (RO 5) (RA 5) (cap 5) np (f 5) (by omega) (by omega) (hs.2.1 5 (by omega)).1 (hs.2.1 5 (by omega)).2.1 x) ko_X6_get km_X8_47 ki_X6_get ks_X6_get kn_X6 (by decide +kernel) rfl (hs.2.1 5 (by omega)).1 rfl hl.1 rfl (by simp [Value.category]) dX8_isSame_24 (by rw [hR]; exact ⟨rfl, rfl, Nat.le_of_ble_eq_true rfl, Nat.le_of_ble_eq_true rfl, by simp, by simp⟩) (fun r_12 ah_13 H_14 L_15 st_16 hp hw hst => ?_)
    obtain ⟨rfl, rfl⟩ := hp
    have hst : st_16 = [.int (rwGet (f 5) np x)] := hst
    subst hst
    refine lv_aload_n hx hb dX8_isSame_27 rfl (lv_at hl 0 rfl) ?_
    refine h_get (ci := 8) (v := .ref (RO 5)) (C := RX8) (T := TX8) (N := 8) hx hb hts kl_X8 hown hK hw hs.1 rfl 5 (by decide) (hts _ kf_X8_30) rfl rfl dX8_isSame_28 ?_
    refine lv_iload_n hx hb dX8_isSame_31 rfl (lv_at hl 2 rfl) ?_
    refine h_callV (n := 1) (ci := 6) (b := (RO 5)) (As := [.int y]) (rest := [.int (rwGet (f 5) np x)]) ⟨hx, hb, hml, hown, hts⟩ hK hw (c_X6_get l D dT ah H_14.size (RO 5) (RA 5) (cap 5) np (f 5) (by omega) (by omega) (hs.2.1 5 (by omega)).1 (hs.2.1 5 (by omega)).2.1 y) ko_X6_get km_X8_47 ki_X6_get ks_X6_get kn_X6 (by decide +kernel) rfl (hs.2.1 5 (by omega)).1 rfl hl.1 rfl (by simp [Value.category]) dX8_isSame_32 (by rw [hR]; exact ⟨rfl, rfl, Nat.le_of_ble_eq_true rfl, Nat.le_of_ble_eq_true rfl, by simp, by simp⟩) (fun r_17 ah_18 H_19 L_20 st_21 hp hw hst => ?_)
    obtain ⟨rfl, rfl⟩ := hp
    have hst : st_21 = [.int (rwGet (f 5) np y), .int (rwGet (f 5) np x)] := hst
    subst hst
    have J_24 : ∀ (v_23 : Int32) (ls : Array Slot), lv_has ls 3 [(0, .ref sh), (1, .int x), (2, .int y)] → v_23 = (if rwGet (f 5) np x = rwGet (f 5) np y then 1 else 0) → W p l e R s m args below meth c H_19 L_20 (0 + 0 + 0 + 0 + 0) (0 + 0 + 0 + 0 + 0) Q (F0 m 43 ls [.int v_23]) := by
      intro v_23 ls hl ev_23
      have hv : v_23 = bI (shSame f np x y) := by
        subst ev_23
        unfold shSame
        simp only [bI_if, bI_t, bI_f]
        all_goals rw [if_pos c_11]
      rw [hQ]
      exact h_zret hx hb hr hlk hsz hw (by simp) (by simp) dX8_isSame_43 (bI_v hv) ⟨congrArg (fun z => some (Value.int z)) hv, rfl⟩
    refine lv_icmp_ne (tgt := 42) hx hb dX8_isSame_35 (by decide) (fun c_22 => ?_) (fun c_22 => ?_)
    · skip
      refine lv_iconst (v := 0) hx hb dX8_isSame_42 (by decide) ?_
      exact J_24 0 ls (lv_sub hl [0, 1, 2] rfl) (by rw [if_neg c_22])
    · skip
      refine lv_iconst (v := 1) hx hb dX8_isSame_38 (by decide) ?_
      refine lv_goto (tgt := 43) hx hb dX8_isSame_39 (by decide) ?_
      exact J_24 1 ls (lv_sub hl [0, 1, 2] rfl) (by rw [if_pos c_22])

def shBehind (f : Nat → Nat → Int32) (nc np ch : Nat) : Int32 := (if nc ≤ ch + 1 then nI np else rwGet (f 3) nc (nI (ch + 1)))
set_option maxHeartbeats 4000000 in
set_option maxRecDepth 100000 in
theorem c_X8_behindChain (l : Launch) (D : va_G) (dT : Nat → ClassId) (ah : hA) (sz : Nat) (sh : Nat) (RO RA cap : Nat → Nat) (ns nc np no rc : Nat) (f : Nat → Nat → Int32) (hs : shA dT ah sh RO RA cap (v7 ns ns ns nc np np no) f rc) (ch : Nat) (hch : ch ≤ 100000) : hMet l yX8_behindChain cX8_behindChain 2 (some .int) ({ frames := 1, cells := 0, slots := 0, locals := 21 }) D dT [.ref sh, .int (nI ch)] ah sz (fun r ah2 => r = some (.int (shBehind f nc np ch)) ∧ ah = ah2) 0 0 := by
  refine h_met (by decide) (Nat.le_of_ble_eq_true rfl) ?_
  intro p e s m below meth c ls R Q args hav hR hQ hB hl hsz hw
  obtain ⟨hx, hb, hml, hr, hts, hown, hlk, hin, hK⟩ := hB
  have hown : s.vm.findClass RX8 = some m.cls := hown
  have hl : lv_has ls 2 [(0, .ref sh), (1, .int (nI ch))] := hl
  have hb0 : ns ≤ cap 0 ∧ 32 ≤ cap 0 ∧ cap 0 ≤ 40000 := (hs.2.1 0 (by omega)).2.2
  have hb1 : ns ≤ cap 1 ∧ 32 ≤ cap 1 ∧ cap 1 ≤ 40000 := (hs.2.1 1 (by omega)).2.2
  have hb2 : ns ≤ cap 2 ∧ 32 ≤ cap 2 ∧ cap 2 ≤ 40000 := (hs.2.1 2 (by omega)).2.2
  have hb3 : nc ≤ cap 3 ∧ 32 ≤ cap 3 ∧ cap 3 ≤ 40000 := (hs.2.1 3 (by omega)).2.2
  have hb4 : np ≤ cap 4 ∧ 32 ≤ cap 4 ∧ cap 4 ≤ 40000 := (hs.2.1 4 (by omega)).2.2
  have hb5 : np ≤ cap 5 ∧ 32 ≤ cap 5 ∧ cap 5 ≤ 40000 := (hs.2.1 5 (by omega)).2.2
  have hb6 : no ≤ cap 6 ∧ 32 ≤ cap 6 ∧ cap 6 ≤ 40000 := (hs.2.1 6 (by omega)).2.2
  refine lv_iload_n hx hb dX8_behindChain_0 rfl (lv_at hl 1 rfl) ?_
  refine lv_iconst (v := 1) hx hb dX8_behindChain_1 (by decide) ?_
  refine lv_iadd hx hb dX8_behindChain_2 ?_
  refine lv_topi (fun t_1 et_1 => ?_)
  obtain rfl : t_1 = nI (ch + 1) := et_1.trans (nI_c _ 1)
  refine lv_aload_n hx hb dX8_behindChain_3 rfl (lv_at hl 0 rfl) ?_
  refine h_get (ci := 8) (v := .ref (RO 3)) (C := RX8) (T := TX8) (N := 8) hx hb hts kl_X8 hown hK hw hs.1 rfl 3 (by decide) (hts _ kf_X8_24) rfl rfl dX8_behindChain_4 ?_
  refine h_callV (n := 0) (ci := 6) (b := (RO 3)) (As := []) (rest := [.int (nI (ch + 1))]) ⟨hx, hb, hml, hown, hts⟩ hK hw (c_X6_size l D dT ah s.heap.size (RO 3) (RA 3) (cap 3) nc (f 3) (by omega) (by omega) (hs.2.1 3 (by omega)).1 (hs.2.1 3 (by omega)).2.1) ko_X6_size km_X8_43 ki_X6_size ks_X6_size kn_X6 (by decide +kernel) rfl (hs.2.1 3 (by omega)).1 rfl hl.1 rfl (by simp [Value.category]) dX8_behindChain_7 (by rw [hR]; exact ⟨rfl, rfl, Nat.le_of_ble_eq_true rfl, Nat.le_of_ble_eq_true rfl, by simp, by simp⟩) (fun r_2 ah_3 H_4 L_5 st_6 hp hw hst => ?_)
  obtain ⟨rfl, rfl⟩ := hp
  have hst : st_6 = [.int (nI nc), .int (nI (ch + 1))] := hst
  subst hst
  refine lv_icmp_ge (tgt := 26) hx hb dX8_behindChain_10 (by decide) (fun c_7 => ?_) (fun c_7 => ?_)
  · skip
    have c_7 : nc ≤ ch + 1 := (nI_lex (by rfl) (by rfl) (by omega) (by omega)).mp c_7
    refine lv_aload_n hx hb dX8_behindChain_26 rfl (lv_at hl 0 rfl) ?_
    refine h_get (ci := 8) (v := .ref (RO 4)) (C := RX8) (T := TX8) (N := 8) hx hb hts kl_X8 hown hK hw hs.1 rfl 4 (by decide) (hts _ kf_X8_27) rfl rfl dX8_behindChain_27 ?_
    refine h_callV (n := 0) (ci := 6) (b := (RO 4)) (As := []) (rest := []) ⟨hx, hb, hml, hown, hts⟩ hK hw (c_X6_size l D dT ah H_4.size (RO 4) (RA 4) (cap 4) np (f 4) (by omega) (by omega) (hs.2.1 4 (by omega)).1 (hs.2.1 4 (by omega)).2.1) ko_X6_size km_X8_43 ki_X6_size ks_X6_size kn_X6 (by decide +kernel) rfl (hs.2.1 4 (by omega)).1 rfl hl.1 rfl (by simp [Value.category]) dX8_behindChain_30 (by rw [hR]; exact ⟨rfl, rfl, Nat.le_of_ble_eq_true rfl, Nat.le_of_ble_eq_true rfl, by simp, by simp⟩) (fun r_8 ah_9 H_10 L_11 st_12 hp hw hst => ?_)
    obtain ⟨rfl, rfl⟩ := hp
    have hst : st_12 = [.int (nI np)] := hst
    subst hst
    have hv : nI np = shBehind f nc np ch := by
      unfold shBehind
      all_goals rw [if_pos c_7]
    rw [hQ]
    exact h_iret hx hb hr hlk hsz hw (by simp) (by simp) dX8_behindChain_33 ⟨congrArg (fun z => some (Value.int z)) hv, rfl⟩
  · skip
    have c_7 : ¬ (nc ≤ ch + 1) := (not_congr (nI_lex (by rfl) (by rfl) (by omega) (by omega))).mp c_7
    refine lv_aload_n hx hb dX8_behindChain_13 rfl (lv_at hl 0 rfl) ?_
    refine h_get (ci := 8) (v := .ref (RO 3)) (C := RX8) (T := TX8) (N := 8) hx hb hts kl_X8 hown hK hw hs.1 rfl 3 (by decide) (hts _ kf_X8_24) rfl rfl dX8_behindChain_14 ?_
    refine lv_iload_n hx hb dX8_behindChain_17 rfl (lv_at hl 1 rfl) ?_
    refine lv_iconst (v := 1) hx hb dX8_behindChain_18 (by decide) ?_
    refine lv_iadd hx hb dX8_behindChain_19 ?_
    refine lv_topi (fun t_13 et_13 => ?_)
    obtain rfl : t_13 = nI (ch + 1) := et_13.trans (nI_c _ 1)
    refine h_callV (n := 1) (ci := 6) (b := (RO 3)) (As := [.int (nI (ch + 1))]) (rest := []) ⟨hx, hb, hml, hown, hts⟩ hK hw (c_X6_get l D dT ah H_4.size (RO 3) (RA 3) (cap 3) nc (f 3) (by omega) (by omega) (hs.2.1 3 (by omega)).1 (hs.2.1 3 (by omega)).2.1 (nI (ch + 1))) ko_X6_get km_X8_47 ki_X6_get ks_X6_get kn_X6 (by decide +kernel) rfl (hs.2.1 3 (by omega)).1 rfl hl.1 rfl (by simp [Value.category]) dX8_behindChain_20 (by rw [hR]; exact ⟨rfl, rfl, Nat.le_of_ble_eq_true rfl, Nat.le_of_ble_eq_true rfl, by simp, by simp⟩) (fun r_14 ah_15 H_16 L_17 st_18 hp hw hst => ?_)
    obtain ⟨rfl, rfl⟩ := hp
    have hst : st_18 = [.int (rwGet (f 3) nc (nI (ch + 1)))] := hst
    subst hst
    refine lv_goto (tgt := 33) hx hb dX8_behindChain_23 (by decide) ?_
    have hv : rwGet (f 3) nc (nI (ch + 1)) = shBehind f nc np ch := by
      unfold shBehind
      all_goals rw [if_neg c_7]
    rw [hQ]
    exact h_iret hx hb hr hlk hsz hw (by simp) (by simp) dX8_behindChain_33 ⟨congrArg (fun z => some (Value.int z)) hv, rfl⟩

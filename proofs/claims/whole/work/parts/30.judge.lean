/-! ShapeJudge -/
/-- the class's whole state -/
def cjA (dT : Nat → ClassId) (ah : hA) (sj sh fd ins pa mt : Nat) (RO RA cap : Nat → Nat) (ns nc np no rc : Nat) (f : Nat → Nat → Int32) (wh : Int32) (pl : Nat → Int32) (jd : Bool) : Prop :=
  ah sj = some (.inr (9, [.ref sh, .ref fd, .ref ins, .int (bI jd)])) ∧ (∃ shp mx my, inA dT ah ins sh fd pa mt shp wh pl mx my) ∧ shA dT ah sh RO RA cap (v7 ns ns ns nc np np no) f rc ∧ ∀ k, k < 7 → RA k ≠ pa
def cjK (ah ah2 : hA) (sj sh fd ins pa mt : Nat) (RO RA : Nat → Nat) : Prop := ∀ a e, ah a = some e → a ≠ sj → a ≠ sh → a ≠ fd → a ≠ ins → a ≠ pa → a ≠ mt → (∀ k, k < 7 → a ≠ RO k ∧ a ≠ RA k) → ah2 a = some e
theorem shR_o {dT : Nat → ClassId} {ah ah2 : hA} {sh rc : Nat} {RO RA RA2 cap v : Nat → Nat} {f : Nat → Nat → Int32} (hs : shA dT ah sh RO RA cap v f rc) (hr : shR ah ah2 sh RO RA RA2) {a : Nat} {e : va_E} (h : ah a = some e) (hn : ¬ shK dT e) : ah2 a = some e := by
  refine hr.1 a e h (fun h9 => hn ?_) (fun k hk => ⟨fun h9 => hn ?_, fun h9 => hn ?_⟩)
  · rw [h9, hs.1] at h; exact Or.inl ⟨_, (Option.some.inj h).symm⟩
  · rw [h9, (hs.2.1 k hk).1] at h; exact Or.inr (Or.inl ⟨_, (Option.some.inj h).symm⟩)
  · rw [h9, (hs.2.1 k hk).2.1] at h; exact Or.inr (Or.inr ⟨_, _, (Option.some.inj h).symm⟩)
theorem shR_p {dT : Nat → ClassId} {ah ah2 : hA} {sh rc : Nat} {RO RA RA2 cap v : Nat → Nat} {f : Nat → Nat → Int32} (hs : shA dT ah sh RO RA cap v f rc) (hr : shR ah ah2 sh RO RA RA2) {a n : Nat} {g : Nat → Int32} (h : ah a = some (.inl (dT 0, n, .inl g))) (hp : ∀ k, k < 7 → RA k ≠ a) : ah2 a = some (.inl (dT 0, n, .inl g)) :=
  hr.1 a _ h (h_ne h hs.1 (by simp)) (fun k hk => ⟨h_ne h (hs.2.1 k hk).1 (by simp), (hp k hk).symm⟩)
theorem shA_hup_o {dT : Nat → ClassId} {ah : hA} {sh rc a : Nat} {RO RA cap v : Nat → Nat} {f : Nat → Nat → Int32} {x e : va_E} (hs : shA dT ah sh RO RA cap v f rc) (h : ah a = some x) (hn : ¬ shK dT x) : shA dT (hup ah a e) sh RO RA cap v f rc :=
  shA_kp (fun b e9 hb hk => (hup_n (fun h9 => hn (by rw [h9, h] at hb; rw [Option.some.inj hb]; exact hk))).trans hb) hs
theorem shA_hup_p {dT : Nat → ClassId} {ah : hA} {sh rc a n : Nat} {RO RA cap v : Nat → Nat} {f : Nat → Nat → Int32} {g : Nat → Int32} {e : va_E} (hs : shA dT ah sh RO RA cap v f rc) (h : ah a = some (.inl (dT 0, n, .inl g))) (hp : ∀ k, k < 7 → RA k ≠ a) : shA dT (hup ah a e) sh RO RA cap v f rc :=
  ⟨(hup_n (h_ne hs.1 h (by simp))).trans hs.1, fun k hk => ⟨(hup_n (h_ne (hs.2.1 k hk).1 h (by simp))).trans (hs.2.1 k hk).1, (hup_n (hp k hk)).trans (hs.2.1 k hk).2.1, (hs.2.1 k hk).2.2⟩, hs.2.2⟩
theorem shR_pa {ah ah2 : hA} {sh : Nat} {RO RA RA2 : Nat → Nat} (hr : shR ah ah2 sh RO RA RA2) {k pa : Nat} (hk : k < 7) (hp : RA k ≠ pa) {e : va_E} (h : ah pa = some e) : RA2 k ≠ pa := by
  rcases hr.2.1 k hk with h1 | h1
  · rw [h1]; exact hp
  · exact (h_fr h h1).symm
def isCo (x : Int32) : Bool := (if x < (-1000000000) then false else (if 1000000000 < x then false else true))
set_option maxHeartbeats 4000000 in
set_option maxRecDepth 100000 in
theorem c_X9_isCoordinate (l : Launch) (D : va_G) (dT : Nat → ClassId) (ah : hA) (sz : Nat) (x : Int32) : hMet l yX9_isCoordinate cX9_isCoordinate 1 (some .boolean) ({ frames := 0, cells := 0, slots := 0, locals := 0 }) D dT [.int x] ah sz (fun r ah2 => r = some (.int (bI (isCo x))) ∧ ah = ah2) 0 0 := by
  refine h_met (by decide) (Nat.le_of_ble_eq_true rfl) ?_
  intro p e s m below meth c ls R Q args hav hR hQ hB hl hsz hw
  obtain ⟨hx, hb, hml, hr, hts, hown, hlk, hin, hK⟩ := hB
  have hown : s.vm.findClass RX9 = some m.cls := hown
  have hl : lv_has ls 1 [(0, .int x)] := hl
  refine lv_iload_n hx hb dX9_isCoordinate_0 rfl (lv_at hl 0 rfl) ?_
  refine lv_ldc (v := (-1000000000)) hx hb hown (hts _ kk_X9_131) dX9_isCoordinate_1 ?_
  have J_4 : ∀ (v_3 : Int32) (ls : Array Slot), lv_has ls 1 [(0, .int x)] → v_3 = (if x < (-1000000000) then 0 else (if 1000000000 < x then 0 else 1)) → W p l e R s m args below meth c s.heap [] (0) (0) Q (F0 m 17 ls [.int v_3]) := by
    intro v_3 ls hl ev_3
    have hv : v_3 = bI (isCo x) := by
      subst ev_3
      unfold isCo
      simp only [bI_if, bI_t, bI_f]
      all_goals rfl
    rw [hQ]
    exact h_zret hx hb hr hlk hsz hw (by simp) (by simp) dX9_isCoordinate_17 (bI_v hv) ⟨congrArg (fun z => some (Value.int z)) hv, rfl⟩
  refine lv_icmp_lt (tgt := 16) hx hb dX9_isCoordinate_3 (by decide) (fun c_1 => ?_) (fun c_1 => ?_)
  · skip
    refine lv_iconst (v := 0) hx hb dX9_isCoordinate_16 (by decide) ?_
    exact J_4 0 ls (lv_sub hl [0] rfl) (by rw [if_pos c_1])
  · skip
    refine lv_iload_n hx hb dX9_isCoordinate_6 rfl (lv_at hl 0 rfl) ?_
    refine lv_ldc (v := 1000000000) hx hb hown (hts _ kk_X9_132) dX9_isCoordinate_7 ?_
    refine lv_icmp_gt (tgt := 16) hx hb dX9_isCoordinate_9 (by decide) (fun c_2 => ?_) (fun c_2 => ?_)
    · skip
      refine lv_iconst (v := 0) hx hb dX9_isCoordinate_16 (by decide) ?_
      exact J_4 0 ls (lv_sub hl [0] rfl) (by rw [if_neg c_1, if_pos c_2])
    · skip
      refine lv_iconst (v := 1) hx hb dX9_isCoordinate_12 (by decide) ?_
      refine lv_goto (tgt := 17) hx hb dX9_isCoordinate_13 (by decide) ?_
      exact J_4 1 ls (lv_sub hl [0] rfl) (by rw [if_neg c_1, if_neg c_2])

set_option maxHeartbeats 4000000 in
set_option maxRecDepth 100000 in
theorem c_X9_place (l : Launch) (D : va_G) (dT : Nat → ClassId) (ah : hA) (sz : Nat) (hlt : l.stackTraces = false) (sj sh fd ins pa mt : Nat) (RO RA cap : Nat → Nat) (ns nc np no rc : Nat) (f : Nat → Nat → Int32) (wh : Int32) (pl : Nat → Int32) (jd : Bool) (hj : cjA dT ah sj sh fd ins pa mt RO RA cap ns nc np no rc f wh pl jd) (x : Int32) : hMetX l yX9_place cX9_place 2 (some .int) ({ frames := 6, cells := 1, slots := 6, locals := 90 }) D dT [.ref sj, .int x] ah sz (fun r ah2 => (¬ x < 0 ∧ x < 7) ∧ r = some (.int (fdWhere pl x)) ∧ ah = ah2) (fun E => E = "java/lang/IndexOutOfBoundsException" ∧ (x < 0 ∨ ¬ x < 7)) 1 6 := by
  refine h_metX (by decide) (Nat.le_of_ble_eq_true rfl) ?_
  intro p e s m below meth c ls R Q args hav hR hQ hB hl hsz hw hX9 hET
  obtain ⟨hx, hb, hml, hr, hts, hown, hlk, hin, hK⟩ := hB
  have hown : s.vm.findClass RX9 = some m.cls := hown
  have hl : lv_has ls 2 [(0, .ref sj), (1, .int x)] := hl
  obtain ⟨hsj, ⟨shp, mx, my, hi9⟩, hs, hpa⟩ := hj
  have hb0 : ns ≤ cap 0 ∧ 32 ≤ cap 0 ∧ cap 0 ≤ 40000 := (hs.2.1 0 (by omega)).2.2
  have hb1 : ns ≤ cap 1 ∧ 32 ≤ cap 1 ∧ cap 1 ≤ 40000 := (hs.2.1 1 (by omega)).2.2
  have hb2 : ns ≤ cap 2 ∧ 32 ≤ cap 2 ∧ cap 2 ≤ 40000 := (hs.2.1 2 (by omega)).2.2
  have hb3 : nc ≤ cap 3 ∧ 32 ≤ cap 3 ∧ cap 3 ≤ 40000 := (hs.2.1 3 (by omega)).2.2
  have hb4 : np ≤ cap 4 ∧ 32 ≤ cap 4 ∧ cap 4 ≤ 40000 := (hs.2.1 4 (by omega)).2.2
  have hb5 : np ≤ cap 5 ∧ 32 ≤ cap 5 ∧ cap 5 ≤ 40000 := (hs.2.1 5 (by omega)).2.2
  have hb6 : no ≤ cap 6 ∧ 32 ≤ cap 6 ∧ cap 6 ≤ 40000 := (hs.2.1 6 (by omega)).2.2
  refine lv_iload_n hx hb dX9_place_0 rfl (lv_at hl 1 rfl) ?_
  refine lv_if_lt (tgt := 10) hx hb dX9_place_1 (by decide) (fun c_1 => ?_) (fun c_1 => ?_)
  · skip
    rw [hQ]
    exact h_throw hx hb hlt hown (by decide +kernel) hts kc_X9_123 kn_IOE hX9 (List.mem_of_getElem? (i := 9) rfl) xl_IOE xg_IOE hw (by rw [hml]; exact hl.1) hsz dX9_place_10 dX9_place_13 dX9_place_14 dX9_place_16 dX9_place_19 hET (by rw [hR]; exact Nat.le_of_ble_eq_true rfl) (by rw [hR]; exact Nat.le_of_ble_eq_true rfl) (by rw [hR]; simp; try omega) (by rw [hR]; simp; try omega) hlk (⟨rfl, Or.inl c_1⟩) (by simp) (by simp)
  · skip
    refine lv_iload_n hx hb dX9_place_4 rfl (lv_at hl 1 rfl) ?_
    refine lv_bipush (v := 7) hx hb dX9_place_5 (by decide) ?_
    refine lv_icmp_lt (tgt := 20) hx hb dX9_place_7 (by decide) (fun c_2 => ?_) (fun c_2 => ?_)
    · skip
      refine lv_aload_n hx hb dX9_place_20 rfl (lv_at hl 0 rfl) ?_
      refine h_get (ci := 9) (v := .ref fd) (C := RX9) (T := TX9) (N := 4) hx hb hts kl_X9 hown hK hw hsj rfl 1 (by decide) (hts _ kf_X9_19) rfl rfl dX9_place_21 ?_
      refine lv_iload_n hx hb dX9_place_24 rfl (lv_at hl 1 rfl) ?_
      refine h_callV (n := 1) (ci := 1) (b := fd) (As := [.int x]) (rest := []) ⟨hx, hb, hml, hown, hts⟩ hK hw (c_X1_where l D dT ah s.heap.size fd pa wh pl hi9.2.1 hi9.2.2.1 x) ko_X1_where km_X9_128 ki_X1_where ks_X1_where kn_X1 (by decide +kernel) rfl hi9.2.1 rfl hl.1 rfl (by simp [Value.category]) dX9_place_25 (by rw [hR]; exact ⟨rfl, rfl, Nat.le_of_ble_eq_true rfl, Nat.le_of_ble_eq_true rfl, (by dsimp only; omega), (by dsimp only; omega)⟩) (fun r_3 ah_4 H_5 L_6 st_7 hp hw hst => ?_)
      obtain ⟨rfl, rfl⟩ := hp
      have hst : st_7 = [.int (fdWhere pl x)] := hst
      subst hst
      rw [hQ]
      exact vx_ret (h_iret hx hb hr hlk hsz hw (by omega) (by omega) dX9_place_28 ⟨⟨c_1, c_2⟩, rfl, rfl⟩)
    · skip
      rw [hQ]
      exact h_throw hx hb hlt hown (by decide +kernel) hts kc_X9_123 kn_IOE hX9 (List.mem_of_getElem? (i := 9) rfl) xl_IOE xg_IOE hw (by rw [hml]; exact hl.1) hsz dX9_place_10 dX9_place_13 dX9_place_14 dX9_place_16 dX9_place_19 hET (by rw [hR]; exact Nat.le_of_ble_eq_true rfl) (by rw [hR]; exact Nat.le_of_ble_eq_true rfl) (by rw [hR]; simp; try omega) (by rw [hR]; simp; try omega) hlk (⟨rfl, Or.inr c_2⟩) (by simp) (by simp)

set_option maxHeartbeats 4000000 in
set_option maxRecDepth 100000 in
theorem c_X9_close (l : Launch) (D : va_G) (dT : Nat → ClassId) (ah : hA) (sz : Nat) (hlt : l.stackTraces = false) (sj sh fd ins pa mt : Nat) (RO RA cap : Nat → Nat) (ns nc np no rc : Nat) (f : Nat → Nat → Int32) (wh : Int32) (pl : Nat → Int32) (jd : Bool) (hj : cjA dT ah sj sh fd ins pa mt RO RA cap ns nc np no rc f wh pl jd) : hMetX l yX9_close cX9_close 1 (some .int) ({ frames := 6, cells := 1, slots := 6, locals := 90 }) D dT [.ref sj] ah sz (fun r ah2 => ¬ no = 0 ∧ r = some (.int (nI (no - 1))) ∧ cjA dT ah2 sj sh fd ins pa mt RO RA cap ns nc np (no - 1) rc f wh pl jd ∧ cjK ah ah2 sj sh fd ins pa mt RO RA) (fun E => E = "java/lang/IllegalStateException" ∧ no = 0) 1 6 := by
  refine h_metX (by decide) (Nat.le_of_ble_eq_true rfl) ?_
  intro p e s m below meth c ls R Q args hav hR hQ hB hl hsz hw hX9 hET
  obtain ⟨hx, hb, hml, hr, hts, hown, hlk, hin, hK⟩ := hB
  have hown : s.vm.findClass RX9 = some m.cls := hown
  have hl : lv_has ls 1 [(0, .ref sj)] := hl
  obtain ⟨hsj, ⟨shp, mx, my, hi9⟩, hs, hpa⟩ := hj
  have hb0 : ns ≤ cap 0 ∧ 32 ≤ cap 0 ∧ cap 0 ≤ 40000 := (hs.2.1 0 (by omega)).2.2
  have hb1 : ns ≤ cap 1 ∧ 32 ≤ cap 1 ∧ cap 1 ≤ 40000 := (hs.2.1 1 (by omega)).2.2
  have hb2 : ns ≤ cap 2 ∧ 32 ≤ cap 2 ∧ cap 2 ≤ 40000 := (hs.2.1 2 (by omega)).2.2
  have hb3 : nc ≤ cap 3 ∧ 32 ≤ cap 3 ∧ cap 3 ≤ 40000 := (hs.2.1 3 (by omega)).2.2
  have hb4 : np ≤ cap 4 ∧ 32 ≤ cap 4 ∧ cap 4 ≤ 40000 := (hs.2.1 4 (by omega)).2.2
  have hb5 : np ≤ cap 5 ∧ 32 ≤ cap 5 ∧ cap 5 ≤ 40000 := (hs.2.1 5 (by omega)).2.2
  have hb6 : no ≤ cap 6 ∧ 32 ≤ cap 6 ∧ cap 6 ≤ 40000 := (hs.2.1 6 (by omega)).2.2
  refine lv_aload_n hx hb dX9_close_0 rfl (lv_at hl 0 rfl) ?_
  refine h_get (ci := 9) (v := .ref sh) (C := RX9) (T := TX9) (N := 4) hx hb hts kl_X9 hown hK hw hsj rfl 0 (by decide) (hts _ kf_X9_10) rfl rfl dX9_close_1 ?_
  refine h_callV (n := 0) (ci := 8) (b := sh) (As := []) (rest := []) ⟨hx, hb, hml, hown, hts⟩ hK hw (c_X8_openCount l D dT ah s.heap.size sh RO RA cap ns nc np no rc f hs ) ko_X8_openCount km_X9_97 ki_X8_openCount ks_X8_openCount kn_X8 (by decide +kernel) rfl hs.1 rfl hl.1 rfl (by simp [Value.category]) dX9_close_4 (by rw [hR]; exact ⟨rfl, rfl, Nat.le_of_ble_eq_true rfl, Nat.le_of_ble_eq_true rfl, (by dsimp only; omega), (by dsimp only; omega)⟩) (fun r_1 ah_2 H_3 L_4 st_5 hp hw hst => ?_)
  obtain ⟨rfl, rfl⟩ := hp
  have hst : st_5 = [.int (nI no)] := hst
  subst hst
  refine lv_if_ne (tgt := 20) hx hb dX9_close_7 (by decide) (fun c_6 => ?_) (fun c_6 => ?_)
  · skip
    have c_6 : ¬ (no = 0) := (not_congr (nI_eqx (by rfl) (by decide) (by omega) (by omega))).mp c_6
    refine lv_aload_n hx hb dX9_close_20 rfl (lv_at hl 0 rfl) ?_
    refine h_get (ci := 9) (v := .ref sh) (C := RX9) (T := TX9) (N := 4) hx hb hts kl_X9 hown hK hw hsj rfl 0 (by decide) (hts _ kf_X9_10) rfl rfl dX9_close_21 ?_
    refine h_callV (n := 0) (ci := 8) (b := sh) (As := []) (rest := []) ⟨hx, hb, hml, hown, hts⟩ hK hw (c_X8_finish l D dT ah H_3.size sh RO RA cap ns nc np no rc f hs ) ko_X8_finish km_X9_102 ki_X8_finish ks_X8_finish kn_X8 (by decide +kernel) rfl hs.1 rfl hl.1 rfl (by simp [Value.category]) dX9_close_24 (by rw [hR]; exact ⟨rfl, rfl, Nat.le_of_ble_eq_true rfl, Nat.le_of_ble_eq_true rfl, (by dsimp only; omega), (by dsimp only; omega)⟩) (fun r_7 ah_8 H_9 L_10 st_11 hp hw hst => ?_)
    obtain ⟨rfl, hs2, hr2⟩ := hp
    have hc_12 := shR_o hs hr2 hsj (by unfold shK; simp)
    have hc_13 := shR_o hs hr2 hi9.2.1 (by unfold shK; simp)
    have hc_14 := shR_o hs hr2 hi9.1 (by unfold shK; simp)
    have hc_15 := shR_o hs hr2 hi9.2.2.2 (by unfold shK; simp)
    have hc_16 := shR_p hs hr2 hi9.2.2.1 hpa
    have hst : st_11 = [.int (nI (no - 1))] := hst
    subst hst
    rw [hQ]
    exact vx_ret (h_iret hx hb hr hlk hsz hw (by omega) (by omega) dX9_close_27 ⟨c_6, rfl, ⟨hc_12, ⟨shp, mx, my, ⟨hc_14, hc_13, hc_16, hc_15⟩⟩, hs2, fun k hk => shR_pa hr2 hk (hpa k hk) hi9.2.2.1⟩, (fun a e9 h1 n1 n2 n3 n4 n5 n6 n7 => hr2.1 a e9 h1 n2 n7)⟩)
  · skip
    have c_6 : no = 0 := (nI_eqx (by rfl) (by decide) (by omega) (by omega)).mp c_6
    rw [hQ]
    exact h_throw hx hb hlt hown (by decide +kernel) hts kc_X9_55 kn_ISE hX9 (List.mem_of_getElem? (i := 7) rfl) xl_ISE xg_ISE hw (by rw [hml]; exact hl.1) hsz dX9_close_10 dX9_close_13 dX9_close_14 dX9_close_16 dX9_close_19 hET (by rw [hR]; exact Nat.le_of_ble_eq_true rfl) (by rw [hR]; exact Nat.le_of_ble_eq_true rfl) (by rw [hR]; simp; try omega) (by rw [hR]; simp; try omega) hlk (⟨rfl, c_6⟩) (by simp) (by simp)

set_option maxHeartbeats 4000000 in
set_option maxRecDepth 100000 in
theorem c_X9_ring (l : Launch) (D : va_G) (dT : Nat → ClassId) (ah : hA) (sz : Nat) (hlt : l.stackTraces = false) (sj sh fd ins pa mt : Nat) (RO RA cap : Nat → Nat) (ns nc np no rc : Nat) (f : Nat → Nat → Int32) (wh : Int32) (pl : Nat → Int32) (jd : Bool) (hj : cjA dT ah sj sh fd ins pa mt RO RA cap ns nc np no rc f wh pl jd) (hns : ns ≤ 20000) (hnc : nc ≤ 20000) (hno : no ≤ 20000) (hnp : np ≤ 20000) (hrc : rc ≤ 20000) : hMetX l yX9_ring cX9_ring 1 none ({ frames := 6, cells := 1, slots := (6 + rwG nc (cap 3)), locals := 123 }) D dT [.ref sj] ah sz (fun r ah2 => (shKind f ns no = 3 ∧ 2 * ns + 1 * rc ≤ 4095) ∧ r = none ∧ ∃ (RA2 cap2 : Nat → Nat) (f2 : Nat → Nat → Int32), cjA dT ah2 sj sh fd ins pa mt RO RA2 cap2 ns (nc + 1) np no (rc + 1) f2 wh pl jd ∧ cjK ah ah2 sj sh fd ins pa mt RO RA ∧ (∀ k, k < 7 → RA2 k = RA k ∨ ah (RA2 k) = none) ∧ shD (v7 ns ns ns nc np np no) f f2 ∧ f2 3 nc = nI np) (fun E => E = "java/lang/IllegalStateException" ∧ ¬ shKind f ns no = 3 ∨ E = "java/lang/UnsupportedOperationException" ∧ shKind f ns no = 3 ∧ ¬ 2 * ns + 1 * rc ≤ 4095) 1 (6 + rwG nc (cap 3)) := by
  refine h_metX (by decide) (Nat.le_of_ble_eq_true rfl) ?_
  intro p e s m below meth c ls R Q args hav hR hQ hB hl hsz hw hX9 hET
  obtain ⟨hx, hb, hml, hr, hts, hown, hlk, hin, hK⟩ := hB
  have hown : s.vm.findClass RX9 = some m.cls := hown
  have hl : lv_has ls 1 [(0, .ref sj)] := hl
  obtain ⟨hsj, ⟨shp, mx, my, hi9⟩, hs, hpa⟩ := hj
  have hb0 : ns ≤ cap 0 ∧ 32 ≤ cap 0 ∧ cap 0 ≤ 40000 := (hs.2.1 0 (by omega)).2.2
  have hb1 : ns ≤ cap 1 ∧ 32 ≤ cap 1 ∧ cap 1 ≤ 40000 := (hs.2.1 1 (by omega)).2.2
  have hb2 : ns ≤ cap 2 ∧ 32 ≤ cap 2 ∧ cap 2 ≤ 40000 := (hs.2.1 2 (by omega)).2.2
  have hb3 : nc ≤ cap 3 ∧ 32 ≤ cap 3 ∧ cap 3 ≤ 40000 := (hs.2.1 3 (by omega)).2.2
  have hb4 : np ≤ cap 4 ∧ 32 ≤ cap 4 ∧ cap 4 ≤ 40000 := (hs.2.1 4 (by omega)).2.2
  have hb5 : np ≤ cap 5 ∧ 32 ≤ cap 5 ∧ cap 5 ≤ 40000 := (hs.2.1 5 (by omega)).2.2
  have hb6 : no ≤ cap 6 ∧ 32 ≤ cap 6 ∧ cap 6 ≤ 40000 := (hs.2.1 6 (by omega)).2.2
  refine lv_aload_n hx hb dX9_ring_0 rfl (lv_at hl 0 rfl) ?_
  refine h_get (ci := 9) (v := .ref sh) (C := RX9) (T := TX9) (N := 4) hx hb hts kl_X9 hown hK hw hsj rfl 0 (by decide) (hts _ kf_X9_10) rfl rfl dX9_ring_1 ?_
  refine h_callV (n := 0) (ci := 8) (b := sh) (As := []) (rest := []) ⟨hx, hb, hml, hown, hts⟩ hK hw (c_X8_openKind l D dT ah s.heap.size sh RO RA cap ns nc np no rc f hs ) ko_X8_openKind km_X9_69 ki_X8_openKind ks_X8_openKind kn_X8 (by decide +kernel) rfl hs.1 rfl hl.1 rfl (by simp [Value.category]) dX9_ring_4 (by rw [hR]; exact ⟨rfl, rfl, Nat.le_of_ble_eq_true rfl, Nat.le_of_ble_eq_true rfl, (by dsimp only; omega), (by dsimp only; omega)⟩) (fun r_1 ah_2 H_3 L_4 st_5 hp hw hst => ?_)
  obtain ⟨rfl, rfl⟩ := hp
  have hst : st_5 = [.int (shKind f ns no)] := hst
  subst hst
  refine lv_iconst (v := 3) hx hb dX9_ring_7 (by decide) ?_
  refine lv_icmp_eq (tgt := 21) hx hb dX9_ring_8 (by decide) (fun c_6 => ?_) (fun c_6 => ?_)
  · skip
    refine lv_aload_n hx hb dX9_ring_21 rfl (lv_at hl 0 rfl) ?_
    refine h_get (ci := 9) (v := .ref sh) (C := RX9) (T := TX9) (N := 4) hx hb hts kl_X9 hown hK hw hsj rfl 0 (by decide) (hts _ kf_X9_10) rfl rfl dX9_ring_22 ?_
    refine h_callV (n := 0) (ci := 8) (b := sh) (As := []) (rest := []) ⟨hx, hb, hml, hown, hts⟩ hK hw (c_X8_numbers l D dT ah H_3.size sh RO RA cap ns nc np no rc f hs ) ko_X8_numbers km_X9_32 ki_X8_numbers ks_X8_numbers kn_X8 (by decide +kernel) rfl hs.1 rfl hl.1 rfl (by simp [Value.category]) dX9_ring_25 (by rw [hR]; exact ⟨rfl, rfl, Nat.le_of_ble_eq_true rfl, Nat.le_of_ble_eq_true rfl, (by dsimp only; omega), (by dsimp only; omega)⟩) (fun r_7 ah_8 H_9 L_10 st_11 hp hw hst => ?_)
    obtain ⟨rfl, rfl⟩ := hp
    have hst : st_11 = [.int (nI (2 * ns + 1 * rc))] := hst
    subst hst
    refine lv_sipush (v := 4095) hx hb dX9_ring_28 (by decide) ?_
    refine lv_icmp_le (tgt := 44) hx hb dX9_ring_31 (by decide) (fun c_12 => ?_) (fun c_12 => ?_)
    · skip
      have c_12 : 2 * ns + 1 * rc ≤ 4095 := (nI_lex (by rfl) (by decide) (by omega) (by omega)).mp c_12
      refine lv_aload_n hx hb dX9_ring_44 rfl (lv_at hl 0 rfl) ?_
      refine h_get (ci := 9) (v := .ref sh) (C := RX9) (T := TX9) (N := 4) hx hb hts kl_X9 hown hK hw hsj rfl 0 (by decide) (hts _ kf_X9_10) rfl rfl dX9_ring_45 ?_
      refine h_callV (n := 0) (ci := 8) (b := sh) (As := []) (rest := []) ⟨hx, hb, hml, hown, hts⟩ hK hw (c_X8_beginRing l D dT ah H_9.size sh RO RA cap ns nc np no rc f hs (by omega)) ko_X8_beginRing km_X9_74 ki_X8_beginRing ks_X8_beginRing kn_X8 (by decide +kernel) rfl hs.1 rfl hl.1 rfl (by simp [Value.category]) dX9_ring_48 (by rw [hR]; exact ⟨rfl, rfl, Nat.le_of_ble_eq_true rfl, Nat.le_of_ble_eq_true rfl, (by dsimp only; omega), (by dsimp only; omega)⟩) (fun r_13 ah_14 H_15 L_16 st_17 hp hw hst => ?_)
      obtain ⟨rfl, RA2, cap2, f2, hs2, hr2, hd2, hb1⟩ := hp
      have hc_18 := shR_o hs hr2 hsj (by unfold shK; simp)
      have hc_19 := shR_o hs hr2 hi9.2.1 (by unfold shK; simp)
      have hc_20 := shR_o hs hr2 hi9.1 (by unfold shK; simp)
      have hc_21 := shR_o hs hr2 hi9.2.2.2 (by unfold shK; simp)
      have hc_22 := shR_p hs hr2 hi9.2.2.1 hpa
      have hst : st_17 = [] := hst
      subst hst
      rw [hQ]
      exact vx_ret (h_vret hx hb hr hlk hsz hw (by omega) (by omega) dX9_ring_51 ⟨⟨c_6, c_12⟩, rfl, RA2, cap2, f2, ⟨hc_18, ⟨shp, mx, my, ⟨hc_20, hc_19, hc_22, hc_21⟩⟩, hs2, fun k hk => shR_pa hr2 hk (hpa k hk) hi9.2.2.1⟩, (fun a e9 h1 n1 n2 n3 n4 n5 n6 n7 => hr2.1 a e9 h1 n2 n7), hr2.2.1, hd2, hb1⟩)
    · skip
      have c_12 : ¬ (2 * ns + 1 * rc ≤ 4095) := (not_congr (nI_lex (by rfl) (by decide) (by omega) (by omega))).mp c_12
      rw [hQ]
      exact h_throw hx hb hlt hown (by decide +kernel) hts kc_X9_60 kn_UOE hX9 (List.mem_of_getElem? (i := 2) rfl) xl_UOE xg_UOE hw (by rw [hml]; exact hl.1) hsz dX9_ring_34 dX9_ring_37 dX9_ring_38 dX9_ring_40 dX9_ring_43 hET (by rw [hR]; exact Nat.le_of_ble_eq_true rfl) (by rw [hR]; exact Nat.le_of_ble_eq_true rfl) (by rw [hR]; dsimp only; omega) (by rw [hR]; dsimp only; omega) hlk (Or.inr ⟨rfl, c_6, c_12⟩) (by omega) (by omega)
  · skip
    rw [hQ]
    exact h_throw hx hb hlt hown (by decide +kernel) hts kc_X9_55 kn_ISE hX9 (List.mem_of_getElem? (i := 3) rfl) xl_ISE xg_ISE hw (by rw [hml]; exact hl.1) hsz dX9_ring_11 dX9_ring_14 dX9_ring_15 dX9_ring_17 dX9_ring_20 hET (by rw [hR]; exact Nat.le_of_ble_eq_true rfl) (by rw [hR]; exact Nat.le_of_ble_eq_true rfl) (by rw [hR]; dsimp only; omega) (by rw [hR]; dsimp only; omega) hlk (Or.inl ⟨rfl, c_6⟩) (by omega) (by omega)

set_option maxHeartbeats 4000000 in
set_option maxRecDepth 100000 in
theorem c_X9_point (l : Launch) (D : va_G) (dT : Nat → ClassId) (ah : hA) (sz : Nat) (hlt : l.stackTraces = false) (sj sh fd ins pa mt : Nat) (RO RA cap : Nat → Nat) (ns nc np no rc : Nat) (f : Nat → Nat → Int32) (wh : Int32) (pl : Nat → Int32) (jd : Bool) (hj : cjA dT ah sj sh fd ins pa mt RO RA cap ns nc np no rc f wh pl jd) (hns : ns ≤ 20000) (hnc : nc ≤ 20000) (hno : no ≤ 20000) (hnp : np ≤ 20000) (hrc : rc ≤ 20000) (x y : Int32) : hMetX l yX9_point cX9_point 3 (some .int) ({ frames := 6, cells := 2, slots := (6 + rwG np (cap 4) + rwG np (cap 5)), locals := 125 }) D dT [.ref sj, .int x, .int y] ah sz (fun r ah2 => ((¬ isCo x = false ∧ ¬ isCo y = false) ∧ ¬ shTakeP f ns nc np no = false ∧ np < 4096) ∧ r = some (.int (nI (np + 1))) ∧ ∃ (RA2 cap2 : Nat → Nat) (f2 : Nat → Nat → Int32), cjA dT ah2 sj sh fd ins pa mt RO RA2 cap2 ns nc (np + 1) no rc f2 wh pl jd ∧ cjK ah ah2 sj sh fd ins pa mt RO RA ∧ (∀ k, k < 7 → RA2 k = RA k ∨ ah (RA2 k) = none) ∧ shD (v7 ns ns ns nc np np no) f f2 ∧ f2 4 np = x ∧ f2 5 np = y) (fun E => E = "java/lang/IllegalArgumentException" ∧ (isCo x = false ∨ isCo y = false) ∨ E = "java/lang/IllegalStateException" ∧ (¬ isCo x = false ∧ ¬ isCo y = false) ∧ shTakeP f ns nc np no = false ∨ E = "java/lang/UnsupportedOperationException" ∧ (¬ isCo x = false ∧ ¬ isCo y = false) ∧ ¬ shTakeP f ns nc np no = false ∧ ¬ np < 4096) 2 (6 + rwG np (cap 4) + rwG np (cap 5)) := by
  refine h_metX (by decide) (Nat.le_of_ble_eq_true rfl) ?_
  intro p e s m below meth c ls R Q args hav hR hQ hB hl hsz hw hX9 hET
  obtain ⟨hx, hb, hml, hr, hts, hown, hlk, hin, hK⟩ := hB
  have hown : s.vm.findClass RX9 = some m.cls := hown
  have hl : lv_has ls 3 [(0, .ref sj), (1, .int x), (2, .int y)] := hl
  obtain ⟨hsj, ⟨shp, mx, my, hi9⟩, hs, hpa⟩ := hj
  have hb0 : ns ≤ cap 0 ∧ 32 ≤ cap 0 ∧ cap 0 ≤ 40000 := (hs.2.1 0 (by omega)).2.2
  have hb1 : ns ≤ cap 1 ∧ 32 ≤ cap 1 ∧ cap 1 ≤ 40000 := (hs.2.1 1 (by omega)).2.2
  have hb2 : ns ≤ cap 2 ∧ 32 ≤ cap 2 ∧ cap 2 ≤ 40000 := (hs.2.1 2 (by omega)).2.2
  have hb3 : nc ≤ cap 3 ∧ 32 ≤ cap 3 ∧ cap 3 ≤ 40000 := (hs.2.1 3 (by omega)).2.2
  have hb4 : np ≤ cap 4 ∧ 32 ≤ cap 4 ∧ cap 4 ≤ 40000 := (hs.2.1 4 (by omega)).2.2
  have hb5 : np ≤ cap 5 ∧ 32 ≤ cap 5 ∧ cap 5 ≤ 40000 := (hs.2.1 5 (by omega)).2.2
  have hb6 : no ≤ cap 6 ∧ 32 ≤ cap 6 ∧ cap 6 ≤ 40000 := (hs.2.1 6 (by omega)).2.2
  refine lv_iload_n hx hb dX9_point_0 rfl (lv_at hl 1 rfl) ?_
  refine h_callS (n := 1) (As := [.int x]) (rest := []) ⟨hx, hb, hml, hown, hts⟩ hK hw (c_X9_isCoordinate l D dT ah s.heap.size x) ko_X9_isCoordinate km_X9_77 kt_X9_isCoordinate kn_X9 (by decide +kernel) rfl hl.1 rfl (by simp [Value.category]) dX9_point_1 (by rw [hR]; exact ⟨rfl, rfl, Nat.le_of_ble_eq_true rfl, Nat.le_of_ble_eq_true rfl, (by dsimp only; omega), (by dsimp only; omega)⟩) (fun r_1 ah_2 H_3 L_4 st_5 hp hw hst => ?_)
  obtain ⟨rfl, rfl⟩ := hp
  have hst : st_5 = [.int (bI (isCo x))] := hst
  subst hst
  refine lv_if_eq (tgt := 14) hx hb dX9_point_4 (by decide) (fun c_6 => ?_) (fun c_6 => ?_)
  · skip
    have c_6 : isCo x = false := bI_0.mp c_6
    rw [hQ]
    exact h_throw hx hb hlt hown (by decide +kernel) hts kc_X9_44 kn_IAE hX9 (List.mem_of_getElem? (i := 4) rfl) xl_IAE xg_IAE hw (by rw [hml]; exact hl.1) hsz dX9_point_14 dX9_point_17 dX9_point_18 dX9_point_20 dX9_point_23 hET (by rw [hR]; exact Nat.le_of_ble_eq_true rfl) (by rw [hR]; exact Nat.le_of_ble_eq_true rfl) (by rw [hR]; dsimp only; omega) (by rw [hR]; dsimp only; omega) hlk (Or.inl ⟨rfl, Or.inl c_6⟩) (by omega) (by omega)
  · skip
    have c_6 : ¬ (isCo x = false) := (not_congr bI_0).mp c_6
    refine lv_iload_n hx hb dX9_point_7 rfl (lv_at hl 2 rfl) ?_
    refine h_callS (n := 1) (As := [.int y]) (rest := []) ⟨hx, hb, hml, hown, hts⟩ hK hw (c_X9_isCoordinate l D dT ah H_3.size y) ko_X9_isCoordinate km_X9_77 kt_X9_isCoordinate kn_X9 (by decide +kernel) rfl hl.1 rfl (by simp [Value.category]) dX9_point_8 (by rw [hR]; exact ⟨rfl, rfl, Nat.le_of_ble_eq_true rfl, Nat.le_of_ble_eq_true rfl, (by dsimp only; omega), (by dsimp only; omega)⟩) (fun r_7 ah_8 H_9 L_10 st_11 hp hw hst => ?_)
    obtain ⟨rfl, rfl⟩ := hp
    have hst : st_11 = [.int (bI (isCo y))] := hst
    subst hst
    refine lv_if_ne (tgt := 24) hx hb dX9_point_11 (by decide) (fun c_12 => ?_) (fun c_12 => ?_)
    · skip
      have c_12 : ¬ (isCo y = false) := (not_congr bI_0).mp c_12
      refine lv_aload_n hx hb dX9_point_24 rfl (lv_at hl 0 rfl) ?_
      refine h_get (ci := 9) (v := .ref sh) (C := RX9) (T := TX9) (N := 4) hx hb hts kl_X9 hown hK hw hsj rfl 0 (by decide) (hts _ kf_X9_10) rfl rfl dX9_point_25 ?_
      refine h_callV (n := 0) (ci := 8) (b := sh) (As := []) (rest := []) ⟨hx, hb, hml, hown, hts⟩ hK hw (c_X8_canTakePoint l D dT ah H_9.size sh RO RA cap ns nc np no rc f hs ) ko_X8_canTakePoint km_X9_82 ki_X8_canTakePoint ks_X8_canTakePoint kn_X8 (by decide +kernel) rfl hs.1 rfl hl.1 rfl (by simp [Value.category]) dX9_point_28 (by rw [hR]; exact ⟨rfl, rfl, Nat.le_of_ble_eq_true rfl, Nat.le_of_ble_eq_true rfl, (by dsimp only; omega), (by dsimp only; omega)⟩) (fun r_13 ah_14 H_15 L_16 st_17 hp hw hst => ?_)
      obtain ⟨rfl, rfl⟩ := hp
      have hst : st_17 = [.int (bI (shTakeP f ns nc np no))] := hst
      subst hst
      refine lv_if_ne (tgt := 44) hx hb dX9_point_31 (by decide) (fun c_18 => ?_) (fun c_18 => ?_)
      · skip
        have c_18 : ¬ (shTakeP f ns nc np no = false) := (not_congr bI_0).mp c_18
        refine lv_aload_n hx hb dX9_point_44 rfl (lv_at hl 0 rfl) ?_
        refine h_get (ci := 9) (v := .ref sh) (C := RX9) (T := TX9) (N := 4) hx hb hts kl_X9 hown hK hw hsj rfl 0 (by decide) (hts _ kf_X9_10) rfl rfl dX9_point_45 ?_
        refine h_callV (n := 0) (ci := 8) (b := sh) (As := []) (rest := []) ⟨hx, hb, hml, hown, hts⟩ hK hw (c_X8_pointCount l D dT ah H_15.size sh RO RA cap ns nc np no rc f hs ) ko_X8_pointCount km_X9_88 ki_X8_pointCount ks_X8_pointCount kn_X8 (by decide +kernel) rfl hs.1 rfl hl.1 rfl (by simp [Value.category]) dX9_point_48 (by rw [hR]; exact ⟨rfl, rfl, Nat.le_of_ble_eq_true rfl, Nat.le_of_ble_eq_true rfl, (by dsimp only; omega), (by dsimp only; omega)⟩) (fun r_19 ah_20 H_21 L_22 st_23 hp hw hst => ?_)
        obtain ⟨rfl, rfl⟩ := hp
        have hst : st_23 = [.int (nI np)] := hst
        subst hst
        refine lv_sipush (v := 4096) hx hb dX9_point_51 (by decide) ?_
        refine lv_icmp_lt (tgt := 67) hx hb dX9_point_54 (by decide) (fun c_24 => ?_) (fun c_24 => ?_)
        · skip
          have c_24 : np < 4096 := (nI_ltx (by rfl) (by decide) (by omega) (by omega)).mp c_24
          refine lv_aload_n hx hb dX9_point_67 rfl (lv_at hl 0 rfl) ?_
          refine h_get (ci := 9) (v := .ref sh) (C := RX9) (T := TX9) (N := 4) hx hb hts kl_X9 hown hK hw hsj rfl 0 (by decide) (hts _ kf_X9_10) rfl rfl dX9_point_68 ?_
          refine lv_iload_n hx hb dX9_point_71 rfl (lv_at hl 1 rfl) ?_
          refine lv_iload_n hx hb dX9_point_72 rfl (lv_at hl 2 rfl) ?_
          refine h_callV (n := 2) (ci := 8) (b := sh) (As := [.int x, .int y]) (rest := []) ⟨hx, hb, hml, hown, hts⟩ hK hw (c_X8_addPoint l D dT ah H_21.size sh RO RA cap ns nc np no rc f hs (by omega) x y) ko_X8_addPoint km_X9_93 ki_X8_addPoint ks_X8_addPoint kn_X8 (by decide +kernel) rfl hs.1 rfl hl.1 rfl (by simp [Value.category]) dX9_point_73 (by rw [hR]; exact ⟨rfl, rfl, Nat.le_of_ble_eq_true rfl, Nat.le_of_ble_eq_true rfl, (by dsimp only; omega), (by dsimp only; omega)⟩) (fun r_25 ah_26 H_27 L_28 st_29 hp hw hst => ?_)
          obtain ⟨rfl, RA2, f2, hs2, hr2, hd2, hb1, hb2⟩ := hp
          have hc_30 := shR_o hs hr2 hsj (by unfold shK; simp)
          have hc_31 := shR_o hs hr2 hi9.2.1 (by unfold shK; simp)
          have hc_32 := shR_o hs hr2 hi9.1 (by unfold shK; simp)
          have hc_33 := shR_o hs hr2 hi9.2.2.2 (by unfold shK; simp)
          have hc_34 := shR_p hs hr2 hi9.2.2.1 hpa
          have hst : st_29 = [.int (nI (np + 1))] := hst
          subst hst
          rw [hQ]
          exact vx_ret (h_iret hx hb hr hlk hsz hw (by omega) (by omega) dX9_point_76 ⟨⟨⟨c_6, c_12⟩, c_18, c_24⟩, rfl, RA2, _, f2, ⟨hc_30, ⟨shp, mx, my, ⟨hc_32, hc_31, hc_34, hc_33⟩⟩, hs2, fun k hk => shR_pa hr2 hk (hpa k hk) hi9.2.2.1⟩, (fun a e9 h1 n1 n2 n3 n4 n5 n6 n7 => hr2.1 a e9 h1 n2 n7), hr2.2.1, hd2, hb1, hb2⟩)
        · skip
          have c_24 : ¬ (np < 4096) := (not_congr (nI_ltx (by rfl) (by decide) (by omega) (by omega))).mp c_24
          rw [hQ]
          exact h_throw hx hb hlt hown (by decide +kernel) hts kc_X9_60 kn_UOE hX9 (List.mem_of_getElem? (i := 6) rfl) xl_UOE xg_UOE hw (by rw [hml]; exact hl.1) hsz dX9_point_57 dX9_point_60 dX9_point_61 dX9_point_63 dX9_point_66 hET (by rw [hR]; exact Nat.le_of_ble_eq_true rfl) (by rw [hR]; exact Nat.le_of_ble_eq_true rfl) (by rw [hR]; dsimp only; omega) (by rw [hR]; dsimp only; omega) hlk (Or.inr (Or.inr ⟨rfl, ⟨c_6, c_12⟩, c_18, c_24⟩)) (by omega) (by omega)
      · skip
        have c_18 : shTakeP f ns nc np no = false := bI_0.mp c_18
        rw [hQ]
        exact h_throw hx hb hlt hown (by decide +kernel) hts kc_X9_55 kn_ISE hX9 (List.mem_of_getElem? (i := 5) rfl) xl_ISE xg_ISE hw (by rw [hml]; exact hl.1) hsz dX9_point_34 dX9_point_37 dX9_point_38 dX9_point_40 dX9_point_43 hET (by rw [hR]; exact Nat.le_of_ble_eq_true rfl) (by rw [hR]; exact Nat.le_of_ble_eq_true rfl) (by rw [hR]; dsimp only; omega) (by rw [hR]; dsimp only; omega) hlk (Or.inr (Or.inl ⟨rfl, ⟨c_6, c_12⟩, c_18⟩)) (by omega) (by omega)
    · skip
      have c_12 : isCo y = false := bI_0.mp c_12
      rw [hQ]
      exact h_throw hx hb hlt hown (by decide +kernel) hts kc_X9_44 kn_IAE hX9 (List.mem_of_getElem? (i := 4) rfl) xl_IAE xg_IAE hw (by rw [hml]; exact hl.1) hsz dX9_point_14 dX9_point_17 dX9_point_18 dX9_point_20 dX9_point_23 hET (by rw [hR]; exact Nat.le_of_ble_eq_true rfl) (by rw [hR]; exact Nat.le_of_ble_eq_true rfl) (by rw [hR]; dsimp only; omega) (by rw [hR]; dsimp only; omega) hlk (Or.inl ⟨rfl, Or.inr c_12⟩) (by omega) (by omega)

set_option maxHeartbeats 4000000 in
set_option maxRecDepth 100000 in
theorem c_X9_open (l : Launch) (D : va_G) (dT : Nat → ClassId) (ah : hA) (sz : Nat) (hlt : l.stackTraces = false) (sj sh fd ins pa mt : Nat) (RO RA cap : Nat → Nat) (ns nc np no rc : Nat) (f : Nat → Nat → Int32) (wh : Int32) (pl : Nat → Int32) (jd : Bool) (hj : cjA dT ah sj sh fd ins pa mt RO RA cap ns nc np no rc f wh pl jd) (hns : ns ≤ 20000) (hnc : nc ≤ 20000) (hno : no ≤ 20000) (hnp : np ≤ 20000) (hrc : rc ≤ 20000) (x : Int32) : hMetX l yX9_open cX9_open 2 (some .int) ({ frames := 6, cells := 5, slots := (6 + (rwG ns (cap 1) + rwG no (cap 6) + rwG ns (cap 0) + rwG ns (cap 2) + rwG nc (cap 3))), locals := 124 }) D dT [.ref sj, .int x] ah sz (fun r ah2 => ((¬ x < 1 ∧ x ≤ 7) ∧ ¬ shTake f ns no x = false ∧ 2 * ns + 1 * rc ≤ 4094) ∧ r = some (.int (nI (no + 1))) ∧ ∃ (RA2 cap2 : Nat → Nat) (f2 : Nat → Nat → Int32) (nc2 : Nat), cjA dT ah2 sj sh fd ins pa mt RO RA2 cap2 (ns + 1) nc2 np (no + 1) rc f2 wh pl jd ∧ cjK ah ah2 sj sh fd ins pa mt RO RA ∧ (∀ k, k < 7 → RA2 k = RA k ∨ ah (RA2 k) = none) ∧ shD (v7 ns ns ns nc np np no) f f2 ∧ f2 0 ns = x ∧ f2 1 ns = shOuter f no ∧ f2 2 ns = nI nc ∧ f2 6 no = nI ns ∧ ((x = 1 ∨ x = 2) ∧ nc2 = nc + 1 ∧ f2 3 nc = nI np ∨ ¬ (x = 1 ∨ x = 2) ∧ nc2 = nc)) (fun E => E = "java/lang/IllegalArgumentException" ∧ (x < 1 ∨ ¬ x ≤ 7) ∨ E = "java/lang/IllegalStateException" ∧ (¬ x < 1 ∧ x ≤ 7) ∧ shTake f ns no x = false ∨ E = "java/lang/UnsupportedOperationException" ∧ (¬ x < 1 ∧ x ≤ 7) ∧ ¬ shTake f ns no x = false ∧ ¬ 2 * ns + 1 * rc ≤ 4094) 5 (6 + (rwG ns (cap 1) + rwG no (cap 6) + rwG ns (cap 0) + rwG ns (cap 2) + rwG nc (cap 3))) := by
  refine h_metX (by decide) (Nat.le_of_ble_eq_true rfl) ?_
  intro p e s m below meth c ls R Q args hav hR hQ hB hl hsz hw hX9 hET
  obtain ⟨hx, hb, hml, hr, hts, hown, hlk, hin, hK⟩ := hB
  have hown : s.vm.findClass RX9 = some m.cls := hown
  have hl : lv_has ls 2 [(0, .ref sj), (1, .int x)] := hl
  obtain ⟨hsj, ⟨shp, mx, my, hi9⟩, hs, hpa⟩ := hj
  have hb0 : ns ≤ cap 0 ∧ 32 ≤ cap 0 ∧ cap 0 ≤ 40000 := (hs.2.1 0 (by omega)).2.2
  have hb1 : ns ≤ cap 1 ∧ 32 ≤ cap 1 ∧ cap 1 ≤ 40000 := (hs.2.1 1 (by omega)).2.2
  have hb2 : ns ≤ cap 2 ∧ 32 ≤ cap 2 ∧ cap 2 ≤ 40000 := (hs.2.1 2 (by omega)).2.2
  have hb3 : nc ≤ cap 3 ∧ 32 ≤ cap 3 ∧ cap 3 ≤ 40000 := (hs.2.1 3 (by omega)).2.2
  have hb4 : np ≤ cap 4 ∧ 32 ≤ cap 4 ∧ cap 4 ≤ 40000 := (hs.2.1 4 (by omega)).2.2
  have hb5 : np ≤ cap 5 ∧ 32 ≤ cap 5 ∧ cap 5 ≤ 40000 := (hs.2.1 5 (by omega)).2.2
  have hb6 : no ≤ cap 6 ∧ 32 ≤ cap 6 ∧ cap 6 ≤ 40000 := (hs.2.1 6 (by omega)).2.2
  refine lv_iload_n hx hb dX9_open_0 rfl (lv_at hl 1 rfl) ?_
  refine lv_iconst (v := 1) hx hb dX9_open_1 (by decide) ?_
  refine lv_icmp_lt (tgt := 11) hx hb dX9_open_2 (by decide) (fun c_1 => ?_) (fun c_1 => ?_)
  · skip
    rw [hQ]
    exact h_throw hx hb hlt hown (by decide +kernel) hts kc_X9_44 kn_IAE hX9 (List.mem_of_getElem? (i := 0) rfl) xl_IAE xg_IAE hw (by rw [hml]; exact hl.1) hsz dX9_open_11 dX9_open_14 dX9_open_15 dX9_open_17 dX9_open_20 hET (by rw [hR]; exact Nat.le_of_ble_eq_true rfl) (by rw [hR]; exact Nat.le_of_ble_eq_true rfl) (by rw [hR]; dsimp only; omega) (by rw [hR]; dsimp only; omega) hlk (Or.inl ⟨rfl, Or.inl c_1⟩) (by omega) (by omega)
  · skip
    refine lv_iload_n hx hb dX9_open_5 rfl (lv_at hl 1 rfl) ?_
    refine lv_bipush (v := 7) hx hb dX9_open_6 (by decide) ?_
    refine lv_icmp_le (tgt := 21) hx hb dX9_open_8 (by decide) (fun c_2 => ?_) (fun c_2 => ?_)
    · skip
      refine lv_aload_n hx hb dX9_open_21 rfl (lv_at hl 0 rfl) ?_
      refine h_get (ci := 9) (v := .ref sh) (C := RX9) (T := TX9) (N := 4) hx hb hts kl_X9 hown hK hw hsj rfl 0 (by decide) (hts _ kf_X9_10) rfl rfl dX9_open_22 ?_
      refine lv_iload_n hx hb dX9_open_25 rfl (lv_at hl 1 rfl) ?_
      refine h_callV (n := 1) (ci := 8) (b := sh) (As := [.int x]) (rest := []) ⟨hx, hb, hml, hown, hts⟩ hK hw (c_X8_canTake l D dT ah s.heap.size sh RO RA cap ns nc np no rc f hs x) ko_X8_canTake km_X9_51 ki_X8_canTake ks_X8_canTake kn_X8 (by decide +kernel) rfl hs.1 rfl hl.1 rfl (by simp [Value.category]) dX9_open_26 (by rw [hR]; exact ⟨rfl, rfl, Nat.le_of_ble_eq_true rfl, Nat.le_of_ble_eq_true rfl, (by dsimp only; omega), (by dsimp only; omega)⟩) (fun r_3 ah_4 H_5 L_6 st_7 hp hw hst => ?_)
      obtain ⟨rfl, rfl⟩ := hp
      have hst : st_7 = [.int (bI (shTake f ns no x))] := hst
      subst hst
      refine lv_if_ne (tgt := 42) hx hb dX9_open_29 (by decide) (fun c_8 => ?_) (fun c_8 => ?_)
      · skip
        have c_8 : ¬ (shTake f ns no x = false) := (not_congr bI_0).mp c_8
        refine lv_aload_n hx hb dX9_open_42 rfl (lv_at hl 0 rfl) ?_
        refine h_get (ci := 9) (v := .ref sh) (C := RX9) (T := TX9) (N := 4) hx hb hts kl_X9 hown hK hw hsj rfl 0 (by decide) (hts _ kf_X9_10) rfl rfl dX9_open_43 ?_
        refine h_callV (n := 0) (ci := 8) (b := sh) (As := []) (rest := []) ⟨hx, hb, hml, hown, hts⟩ hK hw (c_X8_numbers l D dT ah H_5.size sh RO RA cap ns nc np no rc f hs ) ko_X8_numbers km_X9_32 ki_X8_numbers ks_X8_numbers kn_X8 (by decide +kernel) rfl hs.1 rfl hl.1 rfl (by simp [Value.category]) dX9_open_46 (by rw [hR]; exact ⟨rfl, rfl, Nat.le_of_ble_eq_true rfl, Nat.le_of_ble_eq_true rfl, (by dsimp only; omega), (by dsimp only; omega)⟩) (fun r_9 ah_10 H_11 L_12 st_13 hp hw hst => ?_)
        obtain ⟨rfl, rfl⟩ := hp
        have hst : st_13 = [.int (nI (2 * ns + 1 * rc))] := hst
        subst hst
        refine lv_sipush (v := 4094) hx hb dX9_open_49 (by decide) ?_
        refine lv_icmp_le (tgt := 65) hx hb dX9_open_52 (by decide) (fun c_14 => ?_) (fun c_14 => ?_)
        · skip
          have c_14 : 2 * ns + 1 * rc ≤ 4094 := (nI_lex (by rfl) (by decide) (by omega) (by omega)).mp c_14
          refine lv_aload_n hx hb dX9_open_65 rfl (lv_at hl 0 rfl) ?_
          refine h_get (ci := 9) (v := .ref sh) (C := RX9) (T := TX9) (N := 4) hx hb hts kl_X9 hown hK hw hsj rfl 0 (by decide) (hts _ kf_X9_10) rfl rfl dX9_open_66 ?_
          refine lv_iload_n hx hb dX9_open_69 rfl (lv_at hl 1 rfl) ?_
          refine h_callV (n := 1) (ci := 8) (b := sh) (As := [.int x]) (rest := []) ⟨hx, hb, hml, hown, hts⟩ hK hw (c_X8_begin l D dT ah H_11.size sh RO RA cap ns nc np no rc f hs (by omega) (by omega) (by omega) x) ko_X8_begin km_X9_65 ki_X8_begin ks_X8_begin kn_X8 (by decide +kernel) rfl hs.1 rfl hl.1 rfl (by simp [Value.category]) dX9_open_70 (by rw [hR]; exact ⟨rfl, rfl, Nat.le_of_ble_eq_true rfl, Nat.le_of_ble_eq_true rfl, (by dsimp only; omega), (by dsimp only; omega)⟩) (fun r_15 ah_16 H_17 L_18 st_19 hp hw hst => ?_)
          obtain ⟨rfl, RA2, cap2, f2, nc2, hs2, hr2, hd2, hb1, hb2, hb3, hb4, hb5⟩ := hp
          have hc_20 := shR_o hs hr2 hsj (by unfold shK; simp)
          have hc_21 := shR_o hs hr2 hi9.2.1 (by unfold shK; simp)
          have hc_22 := shR_o hs hr2 hi9.1 (by unfold shK; simp)
          have hc_23 := shR_o hs hr2 hi9.2.2.2 (by unfold shK; simp)
          have hc_24 := shR_p hs hr2 hi9.2.2.1 hpa
          have hst : st_19 = [.int (nI (no + 1))] := hst
          subst hst
          rw [hQ]
          exact vx_ret (h_iret hx hb hr hlk hsz hw (by omega) (by omega) dX9_open_73 ⟨⟨⟨c_1, c_2⟩, c_8, c_14⟩, rfl, RA2, cap2, f2, nc2, ⟨hc_20, ⟨shp, mx, my, ⟨hc_22, hc_21, hc_24, hc_23⟩⟩, hs2, fun k hk => shR_pa hr2 hk (hpa k hk) hi9.2.2.1⟩, (fun a e9 h1 n1 n2 n3 n4 n5 n6 n7 => hr2.1 a e9 h1 n2 n7), hr2.2.1, hd2, hb1, hb2, hb3, hb4, hb5⟩)
        · skip
          have c_14 : ¬ (2 * ns + 1 * rc ≤ 4094) := (not_congr (nI_lex (by rfl) (by decide) (by omega) (by omega))).mp c_14
          rw [hQ]
          exact h_throw hx hb hlt hown (by decide +kernel) hts kc_X9_60 kn_UOE hX9 (List.mem_of_getElem? (i := 2) rfl) xl_UOE xg_UOE hw (by rw [hml]; exact hl.1) hsz dX9_open_55 dX9_open_58 dX9_open_59 dX9_open_61 dX9_open_64 hET (by rw [hR]; exact Nat.le_of_ble_eq_true rfl) (by rw [hR]; exact Nat.le_of_ble_eq_true rfl) (by rw [hR]; dsimp only; omega) (by rw [hR]; dsimp only; omega) hlk (Or.inr (Or.inr ⟨rfl, ⟨c_1, c_2⟩, c_8, c_14⟩)) (by omega) (by omega)
      · skip
        have c_8 : shTake f ns no x = false := bI_0.mp c_8
        rw [hQ]
        exact h_throw hx hb hlt hown (by decide +kernel) hts kc_X9_55 kn_ISE hX9 (List.mem_of_getElem? (i := 1) rfl) xl_ISE xg_ISE hw (by rw [hml]; exact hl.1) hsz dX9_open_32 dX9_open_35 dX9_open_36 dX9_open_38 dX9_open_41 hET (by rw [hR]; exact Nat.le_of_ble_eq_true rfl) (by rw [hR]; exact Nat.le_of_ble_eq_true rfl) (by rw [hR]; dsimp only; omega) (by rw [hR]; dsimp only; omega) hlk (Or.inr (Or.inl ⟨rfl, ⟨c_1, c_2⟩, c_8⟩)) (by omega) (by omega)
    · skip
      rw [hQ]
      exact h_throw hx hb hlt hown (by decide +kernel) hts kc_X9_44 kn_IAE hX9 (List.mem_of_getElem? (i := 0) rfl) xl_IAE xg_IAE hw (by rw [hml]; exact hl.1) hsz dX9_open_11 dX9_open_14 dX9_open_15 dX9_open_17 dX9_open_20 hET (by rw [hR]; exact Nat.le_of_ble_eq_true rfl) (by rw [hR]; exact Nat.le_of_ble_eq_true rfl) (by rw [hR]; dsimp only; omega) (by rw [hR]; dsimp only; omega) hlk (Or.inl ⟨rfl, Or.inr c_2⟩) (by omega) (by omega)

set_option maxHeartbeats 4000000 in
set_option maxRecDepth 100000 in
theorem c_X9_clear (l : Launch) (D : va_G) (dT : Nat → ClassId) (ah : hA) (sz : Nat) (sj sh fd ins pa mt : Nat) (RO RA cap : Nat → Nat) (ns nc np no rc : Nat) (f : Nat → Nat → Int32) (wh : Int32) (pl : Nat → Int32) (jd : Bool) (hj : cjA dT ah sj sh fd ins pa mt RO RA cap ns nc np no rc f wh pl jd) : hMet l yX9_clear cX9_clear 2 (some .int) ({ frames := 2, cells := 0, slots := 0, locals := 43 }) D dT [.ref sj] ah sz (fun r ah2 => r = some (.int (nI (2 * ns + 1 * rc))) ∧ cjA dT ah2 sj sh fd ins pa mt RO RA cap 0 0 0 0 0 f 0 (fillF pl (-1) 7) false ∧ cjK ah ah2 sj sh fd ins pa mt RO RA) 0 0 := by
  refine h_met (by decide) (Nat.le_of_ble_eq_true rfl) ?_
  intro p e s m below meth c ls R Q args hav hR hQ hB hl hsz hw
  obtain ⟨hx, hb, hml, hr, hts, hown, hlk, hin, hK⟩ := hB
  have hown : s.vm.findClass RX9 = some m.cls := hown
  have hl : lv_has ls 2 [(0, .ref sj)] := hl
  obtain ⟨hsj, ⟨shp, mx, my, hi9⟩, hs, hpa⟩ := hj
  have hb0 : ns ≤ cap 0 ∧ 32 ≤ cap 0 ∧ cap 0 ≤ 40000 := (hs.2.1 0 (by omega)).2.2
  have hb1 : ns ≤ cap 1 ∧ 32 ≤ cap 1 ∧ cap 1 ≤ 40000 := (hs.2.1 1 (by omega)).2.2
  have hb2 : ns ≤ cap 2 ∧ 32 ≤ cap 2 ∧ cap 2 ≤ 40000 := (hs.2.1 2 (by omega)).2.2
  have hb3 : nc ≤ cap 3 ∧ 32 ≤ cap 3 ∧ cap 3 ≤ 40000 := (hs.2.1 3 (by omega)).2.2
  have hb4 : np ≤ cap 4 ∧ 32 ≤ cap 4 ∧ cap 4 ≤ 40000 := (hs.2.1 4 (by omega)).2.2
  have hb5 : np ≤ cap 5 ∧ 32 ≤ cap 5 ∧ cap 5 ≤ 40000 := (hs.2.1 5 (by omega)).2.2
  have hb6 : no ≤ cap 6 ∧ 32 ≤ cap 6 ∧ cap 6 ≤ 40000 := (hs.2.1 6 (by omega)).2.2
  refine lv_aload_n hx hb dX9_clear_0 rfl (lv_at hl 0 rfl) ?_
  refine h_get (ci := 9) (v := .ref sh) (C := RX9) (T := TX9) (N := 4) hx hb hts kl_X9 hown hK hw hsj rfl 0 (by decide) (hts _ kf_X9_10) rfl rfl dX9_clear_1 ?_
  refine h_callV (n := 0) (ci := 8) (b := sh) (As := []) (rest := []) ⟨hx, hb, hml, hown, hts⟩ hK hw (c_X8_numbers l D dT ah s.heap.size sh RO RA cap ns nc np no rc f hs ) ko_X8_numbers km_X9_32 ki_X8_numbers ks_X8_numbers kn_X8 (by decide +kernel) rfl hs.1 rfl hl.1 rfl (by simp [Value.category]) dX9_clear_4 (by rw [hR]; exact ⟨rfl, rfl, Nat.le_of_ble_eq_true rfl, Nat.le_of_ble_eq_true rfl, by simp, by simp⟩) (fun r_1 ah_2 H_3 L_4 st_5 hp hw hst => ?_)
  obtain ⟨rfl, rfl⟩ := hp
  have hst : st_5 = [.int (nI (2 * ns + 1 * rc))] := hst
  subst hst
  refine lv_istore_n (lv' := [(1, .int (nI (2 * ns + 1 * rc))), (0, .ref sj)]) hx hb dX9_clear_7 rfl hl (by decide) rfl (fun ls hl => ?_)
  refine lv_aload_n hx hb dX9_clear_8 rfl (lv_at hl 1 rfl) ?_
  refine h_get (ci := 9) (v := .ref sh) (C := RX9) (T := TX9) (N := 4) hx hb hts kl_X9 hown hK hw hsj rfl 0 (by decide) (hts _ kf_X9_10) rfl rfl dX9_clear_9 ?_
  refine h_callV (n := 0) (ci := 8) (b := sh) (As := []) (rest := []) ⟨hx, hb, hml, hown, hts⟩ hK hw (c_X8_forget l D dT ah H_3.size sh RO RA cap ns nc np no rc f hs ) ko_X8_forget km_X9_36 ki_X8_forget ks_X8_forget kn_X8 (by decide +kernel) rfl hs.1 rfl hl.1 rfl (by simp [Value.category]) dX9_clear_12 (by rw [hR]; exact ⟨rfl, rfl, Nat.le_of_ble_eq_true rfl, Nat.le_of_ble_eq_true rfl, by simp, by simp⟩) (fun r_6 ah_7 H_8 L_9 st_10 hp hw hst => ?_)
  obtain ⟨rfl, hs2, hr2⟩ := hp
  have hc_11 := shR_o hs hr2 hsj (by unfold shK; simp)
  have hc_12 := shR_o hs hr2 hi9.2.1 (by unfold shK; simp)
  have hc_13 := shR_o hs hr2 hi9.1 (by unfold shK; simp)
  have hc_14 := shR_o hs hr2 hi9.2.2.2 (by unfold shK; simp)
  have hc_15 := shR_p hs hr2 hi9.2.2.1 hpa
  have hst : st_10 = [] := hst
  subst hst
  refine lv_aload_n hx hb dX9_clear_15 rfl (lv_at hl 1 rfl) ?_
  refine h_get (ci := 9) (v := .ref fd) (C := RX9) (T := TX9) (N := 4) hx hb hts kl_X9 hown hK hw hc_11 rfl 1 (by decide) (hts _ kf_X9_19) rfl rfl dX9_clear_16 ?_
  refine h_callV (n := 0) (ci := 1) (b := fd) (As := []) (rest := []) ⟨hx, hb, hml, hown, hts⟩ hK hw (c_X1_forget l D dT ah_7 H_8.size fd pa wh pl hc_12 hc_15) ko_X1_forget km_X9_39 ki_X1_forget ks_X1_forget kn_X1 (by decide +kernel) rfl hc_12 rfl hl.1 rfl (by simp [Value.category]) dX9_clear_19 (by rw [hR]; exact ⟨rfl, rfl, Nat.le_of_ble_eq_true rfl, Nat.le_of_ble_eq_true rfl, by simp, by simp⟩) (fun r_16 ah_17 H_18 L_19 st_20 hp hw hst => ?_)
  obtain ⟨rfl, eah_17⟩ := hp
  obtain ⟨am_21, eam_21⟩ : ∃ z9 : hA, z9 = hup ah_7 fd (.inr (1, [.int 0, .ref pa])) := ⟨_, rfl⟩
  rw [← eam_21] at eah_17
  have hc_22 := (show am_21 ins = _ from (by rw [eam_21]; exact hup_n (h_ne hc_13 hc_12 (by simp)))).trans hc_13
  have hc_23 : am_21 fd = some (.inr (1, [.int 0, .ref pa])) := by rw [eam_21]; exact hup_s
  have hc_24 := (show am_21 pa = _ from (by rw [eam_21]; exact hup_n (h_ne hc_15 hc_12 (by simp)))).trans hc_15
  have hc_25 := (show am_21 mt = _ from (by rw [eam_21]; exact hup_n (h_ne hc_14 hc_12 (by simp)))).trans hc_14
  have hc_26 := (show am_21 sj = _ from (by rw [eam_21]; exact hup_n (h_ne hc_11 hc_12 (by simp)))).trans hc_11
  have hc_27 := (show ah_17 ins = _ from (by rw [eah_17]; exact hup_n (h_ne hc_22 hc_24 (by simp)))).trans hc_22
  have hc_28 := (show ah_17 fd = _ from (by rw [eah_17]; exact hup_n (h_ne hc_23 hc_24 (by simp)))).trans hc_23
  have hc_29 : ah_17 pa = some (.inl (dT 0, 7, .inl (fillF pl (-1) 7))) := by rw [eah_17]; exact hup_s
  have hc_30 := (show ah_17 mt = _ from (by rw [eah_17]; exact hup_n (h_ne hc_25 hc_24 (by simp)))).trans hc_25
  have hc_31 := (show ah_17 sj = _ from (by rw [eah_17]; exact hup_n (h_ne hc_26 hc_24 (by simp)))).trans hc_26
  have hst : st_20 = [] := hst
  subst hst
  refine lv_aload_n hx hb dX9_clear_22 rfl (lv_at hl 1 rfl) ?_
  refine lv_iconst (v := 0) hx hb dX9_clear_23 (by decide) ?_
  refine h_put (ci := 9) (v := .int 0) (C := RX9) (T := TX9) (N := 4) hx hb hts kl_X9 tyX9 tyX9_ok nmX9 hown hK hw hc_31 rfl 3 (by decide) (hts _ kf_X9_40) rfl rfl (tyX9_ok 3 (by decide)) rfl rfl (Nat.le_of_ble_eq_true rfl) dX9_clear_24 (fun H_32 L_33 hw => ?_)
  obtain ⟨ah_34, eah_34⟩ : ∃ z9 : hA, z9 = hup ah_17 sj (.inr (9, [.ref sh, .ref fd, .ref ins, .int 0])) := ⟨_, rfl⟩
  have hw : hW D ah s.heap ah_34 H_32 L_33 := by rw [eah_34]; exact hw
  have hc_35 := (show ah_34 ins = _ from (by rw [eah_34]; exact hup_n (h_ne hc_27 hc_31 (by simp)))).trans hc_27
  have hc_36 := (show ah_34 fd = _ from (by rw [eah_34]; exact hup_n (h_ne hc_28 hc_31 (by simp)))).trans hc_28
  have hc_37 := (show ah_34 pa = _ from (by rw [eah_34]; exact hup_n (h_ne hc_29 hc_31 (by simp)))).trans hc_29
  have hc_38 := (show ah_34 mt = _ from (by rw [eah_34]; exact hup_n (h_ne hc_30 hc_31 (by simp)))).trans hc_30
  have hc_39 : ah_34 sj = some (.inr (9, [.ref sh, .ref fd, .ref ins, .int 0])) := by rw [eah_34]; exact hup_s
  have hs3 := shA_hup_o (e := .inr (1, [.int 0, .ref pa])) hs2 hc_12 (by unfold shK; simp)
  rw [← eam_21] at hs3
  have hs4 := shA_hup_p (e := .inl (dT 0, 7, .inl (fillF pl (-1) 7))) hs3 hc_24 hpa
  rw [← eah_17] at hs4
  have hs5 := shA_hup_o (e := .inr (9, [.ref sh, .ref fd, .ref ins, .int 0])) hs4 hc_31 (by unfold shK; simp)
  rw [← eah_34] at hs5
  refine lv_iload_n hx hb dX9_clear_27 rfl (lv_at hl 0 rfl) ?_
  rw [hQ]
  exact h_iret hx hb hr hlk hsz hw (by simp) (by simp) dX9_clear_28 ⟨rfl, ⟨hc_39, ⟨shp, mx, my, ⟨hc_35, hc_36, hc_37, hc_38⟩⟩, hs5, hpa⟩, (fun a e9 h1 n1 n2 n3 n4 n5 n6 n7 => (by have g9_0 : am_21 a = some e9 := (by rw [eam_21]; exact (hup_n n3).trans (hr2.1 a e9 h1 n2 n7)); have g9_1 : ah_17 a = some e9 := (by rw [eah_17]; exact (hup_n n5).trans g9_0); have g9_2 : ah_34 a = some e9 := (by rw [eah_34]; exact (hup_n n1).trans g9_1); exact g9_2))⟩

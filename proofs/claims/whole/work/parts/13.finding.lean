/-! Arrays.fill, ShapeJudge$Finding -/
def fillF (f : Nat → Int32) (v : Int32) (i : Nat) : Nat → Int32 := fun j => if j < i then v else f j
theorem fillF_0 {f : Nat → Int32} {v : Int32} : fillF f v 0 = f := by funext j; simp [fillF]
theorem fillF_s {f : Nat → Int32} {v : Int32} {i : Nat} : fillF f v (i + 1) = upd (fillF f v i) i v := by
  funext j
  simp only [fillF, upd]
  by_cases h : j = i
  · simp [h]
  · simp only [if_neg h]
    by_cases h2 : j < i
    · simp [h2, Nat.lt_succ_of_lt h2]
    · simp [h2, show ¬ j < i + 1 by omega]
set_option maxHeartbeats 4000000 in
set_option maxRecDepth 100000 in
theorem c_J7_fill_53178 (l : Launch) (D : va_G) (dT : Nat → ClassId) (ah : hA) (sz : Nat) (a n : Nat) (f : Nat → Int32) (v : Int32) (hn : n < 2 ^ 31) (hea : ah a = some (.inl (dT 0, n, .inl f))) : hMet l yJ7_fill_53178 cJ7_fill_53178 4 none ({ frames := 0, cells := 0, slots := 0, locals := 0 }) D dT [.ref a, .int v] ah sz (fun r ah2 => r = none ∧ ah2 = hup ah a (.inl (dT 0, n, .inl (fillF f v n)))) 0 0 := by
  refine h_met (by decide) (Nat.le_of_ble_eq_true rfl) ?_
  intro p e s m below meth c ls R Q args hav hR hQ hB hl hsz hw
  obtain ⟨hx, hb, hml, hr, hts, hown, hlk, hin, hK⟩ := hB
  have hown : s.vm.findClass RJ7 = some m.cls := hown
  have hl : lv_has ls 4 [(0, .ref a), (1, .int v)] := hl
  refine lv_iconst (v := 0) hx hb dJ7_fill_53178_0 (by decide) ?_
  refine lv_istore_n (lv' := [(2, .int 0), (0, .ref a), (1, .int v)]) hx hb dJ7_fill_53178_1 rfl hl (by decide) rfl (fun ls hl => ?_)
  refine lv_aload_n hx hb dJ7_fill_53178_2 rfl (lv_at hl 1 rfl) ?_
  refine h_alen hx hb hK hw 0 rfl hea dJ7_fill_53178_3 ?_
  refine lv_istore_n (lv' := [(3, .int (nI n)), (2, .int 0), (0, .ref a), (1, .int v)]) hx hb dJ7_fill_53178_4 rfl hl (by decide) rfl (fun ls hl => ?_)
  have LP5 : ∀ (k5 : Nat) (i : Nat) (ah5 : hA) (ls : Array Slot) (H5 : Heap) (L5 : List Loc), (n - i < k5) → (ah5 a = some (.inl (dT 0, n, .inl (fillF f v i)))) → (i ≤ n) → (ah5 = hup ah a (.inl (dT 0, n, .inl (fillF f v i)))) → lv_has ls 4 [(2, .int (nI i)), (3, .int (nI n)), (0, .ref a), (1, .int v)] → hW D ah s.heap ah5 H5 L5 → W p l e R s m args below meth c H5 L5 (0) (0) Q (F0 m 5 ls []) := by
    intro k5
    induction k5 with
    | zero => intro i ah5 ls H5 L5 hk; exact absurd hk (Nat.not_lt_zero _)
    | succ k5 ih5 =>
      intro i ah5 ls H5 L5 hk5 hc5_a hi5 eq5 hl hw
      refine lv_iload_n hx hb dJ7_fill_53178_5 rfl (lv_at hl 0 rfl) ?_
      refine lv_iload_n hx hb dJ7_fill_53178_6 rfl (lv_at hl 1 rfl) ?_
      refine lv_icmp_ge (tgt := 20) hx hb dJ7_fill_53178_7 (by decide) (fun c_1 => ?_) (fun c_1 => ?_)
      · skip
        have c_1 : n ≤ i := (nI_lex (by rfl) (by rfl) (by omega) (by omega)).mp c_1
        rw [hQ]
        exact h_vret hx hb hr hlk hsz hw (by simp) (by simp) dJ7_fill_53178_20 ⟨rfl, by rw [eq5, show i = n by omega]⟩
      · skip
        have c_1 : ¬ (n ≤ i) := (not_congr (nI_lex (by rfl) (by rfl) (by omega) (by omega))).mp c_1
        refine lv_aload_n hx hb dJ7_fill_53178_10 rfl (lv_at hl 2 rfl) ?_
        refine lv_iload_n hx hb dJ7_fill_53178_11 rfl (lv_at hl 0 rfl) ?_
        refine lv_iload_n hx hb dJ7_fill_53178_12 rfl (lv_at hl 3 rfl) ?_
        refine h_iast hx hb hK hw hc5_a i rfl (by omega) (by omega) dJ7_fill_53178_13 (fun H_2 L_3 hw => ?_)
        obtain ⟨ah_4, eah_4⟩ : ∃ z9 : hA, z9 = hup ah5 a (.inl (dT 0, n, .inl (upd (fillF f v i) i v))) := ⟨_, rfl⟩
        have hw : hW D ah s.heap ah_4 H_2 L_3 := by rw [eah_4]; exact hw
        have hc_5 : ah_4 a = some (.inl (dT 0, n, .inl (upd (fillF f v i) i v))) := by rw [eah_4]; exact hup_s
        have hc_5_b : ah_4 a = some (.inl (dT 0, n, .inl (fillF f v (i + 1)))) := by rw [fillF_s]; exact hc_5
        refine lv_iinc (v := nI (i + 1)) (lv' := [(2, .int (nI (i + 1))), (3, .int (nI n)), (0, .ref a), (1, .int v)]) hx hb dJ7_fill_53178_14 hl (k := 0) rfl (nI_c _ 1) (by decide) rfl (fun ls hl => ?_)
        refine lv_goto (tgt := 5) hx hb dJ7_fill_53178_17 (by decide) ?_
        exact ih5 (i + 1) ah_4 ls _ _ (by omega) hc_5_b (by omega) (by rw [eah_4, eq5, hup_hup, fillF_s]) (lv_sub hl [0, 1, 2, 3] rfl) hw
  exact LP5 ((n - 0) + 1) 0 ah ls _ _ (Nat.lt_succ_self _) (by rw [fillF_0]; exact hea) (by omega) (hup_id (by rw [fillF_0]; exact hea)).symm (lv_sub hl [1, 0, 2, 3] rfl) hw

set_option maxHeartbeats 4000000 in
set_option maxRecDepth 100000 in
theorem c_X1_what (l : Launch) (D : va_G) (dT : Nat → ClassId) (ah : hA) (sz : Nat) (fd pa : Nat) (wh : Int32) (pl : Nat → Int32) (hef : ah fd = some (.inr (1, [.int wh, .ref pa]))) (hep : ah pa = some (.inl (dT 0, 7, .inl pl))) : hMet l yX1_what cX1_what 1 (some .int) ({ frames := 0, cells := 0, slots := 0, locals := 0 }) D dT [.ref fd] ah sz (fun r ah2 => r = some (.int wh) ∧ ah = ah2) 0 0 := by
  refine h_met (by decide) (Nat.le_of_ble_eq_true rfl) ?_
  intro p e s m below meth c ls R Q args hav hR hQ hB hl hsz hw
  obtain ⟨hx, hb, hml, hr, hts, hown, hlk, hin, hK⟩ := hB
  have hown : s.vm.findClass RX1 = some m.cls := hown
  have hl : lv_has ls 1 [(0, .ref fd)] := hl
  refine lv_aload_n hx hb dX1_what_0 rfl (lv_at hl 0 rfl) ?_
  refine h_get (ci := 1) (v := .int wh) (C := RX1) (T := TX1) (N := 2) hx hb hts kl_X1 hown hK hw hef rfl 0 (by decide) (hts _ kf_X1_21) rfl rfl dX1_what_1 ?_
  rw [hQ]
  exact h_iret hx hb hr hlk hsz hw (by simp) (by simp) dX1_what_4 ⟨rfl, rfl⟩

def fdMade (wh : Int32) : Bool := (if wh = 0 then false else true)
set_option maxHeartbeats 4000000 in
set_option maxRecDepth 100000 in
theorem c_X1_isMade (l : Launch) (D : va_G) (dT : Nat → ClassId) (ah : hA) (sz : Nat) (fd pa : Nat) (wh : Int32) (pl : Nat → Int32) (hef : ah fd = some (.inr (1, [.int wh, .ref pa]))) (hep : ah pa = some (.inl (dT 0, 7, .inl pl))) : hMet l yX1_isMade cX1_isMade 1 (some .boolean) ({ frames := 0, cells := 0, slots := 0, locals := 0 }) D dT [.ref fd] ah sz (fun r ah2 => r = some (.int (bI (fdMade wh))) ∧ ah = ah2) 0 0 := by
  refine h_met (by decide) (Nat.le_of_ble_eq_true rfl) ?_
  intro p e s m below meth c ls R Q args hav hR hQ hB hl hsz hw
  obtain ⟨hx, hb, hml, hr, hts, hown, hlk, hin, hK⟩ := hB
  have hown : s.vm.findClass RX1 = some m.cls := hown
  have hl : lv_has ls 1 [(0, .ref fd)] := hl
  refine lv_aload_n hx hb dX1_isMade_0 rfl (lv_at hl 0 rfl) ?_
  refine h_get (ci := 1) (v := .int wh) (C := RX1) (T := TX1) (N := 2) hx hb hts kl_X1 hown hK hw hef rfl 0 (by decide) (hts _ kf_X1_21) rfl rfl dX1_isMade_1 ?_
  have J_3 : ∀ (v_2 : Int32) (ls : Array Slot), lv_has ls 1 [(0, .ref fd)] → v_2 = (if wh = 0 then 0 else 1) → W p l e R s m args below meth c s.heap [] (0) (0) Q (F0 m 12 ls [.int v_2]) := by
    intro v_2 ls hl ev_2
    have hv : v_2 = bI (fdMade wh) := by
      subst ev_2
      unfold fdMade
      simp only [bI_if, bI_t, bI_f]
      all_goals rfl
    rw [hQ]
    exact h_zret hx hb hr hlk hsz hw (by simp) (by simp) dX1_isMade_12 (bI_v hv) ⟨congrArg (fun z => some (Value.int z)) hv, rfl⟩
  refine lv_if_eq (tgt := 11) hx hb dX1_isMade_4 (by decide) (fun c_1 => ?_) (fun c_1 => ?_)
  · skip
    refine lv_iconst (v := 0) hx hb dX1_isMade_11 (by decide) ?_
    exact J_3 0 ls (lv_sub hl [0] rfl) (by rw [if_pos c_1])
  · skip
    refine lv_iconst (v := 1) hx hb dX1_isMade_7 (by decide) ?_
    refine lv_goto (tgt := 12) hx hb dX1_isMade_8 (by decide) ?_
    exact J_3 1 ls (lv_sub hl [0] rfl) (by rw [if_neg c_1])

def fdWhere (pl : Nat → Int32) (x : Int32) : Int32 := (if x < 0 then (-1) else (if nI 7 ≤ x then (-1) else pl x.toNatClampNeg))
set_option maxHeartbeats 4000000 in
set_option maxRecDepth 100000 in
theorem c_X1_where (l : Launch) (D : va_G) (dT : Nat → ClassId) (ah : hA) (sz : Nat) (fd pa : Nat) (wh : Int32) (pl : Nat → Int32) (hef : ah fd = some (.inr (1, [.int wh, .ref pa]))) (hep : ah pa = some (.inl (dT 0, 7, .inl pl))) (x : Int32) : hMet l yX1_where cX1_where 2 (some .int) ({ frames := 0, cells := 0, slots := 0, locals := 0 }) D dT [.ref fd, .int x] ah sz (fun r ah2 => r = some (.int (fdWhere pl x)) ∧ ah = ah2) 0 0 := by
  refine h_met (by decide) (Nat.le_of_ble_eq_true rfl) ?_
  intro p e s m below meth c ls R Q args hav hR hQ hB hl hsz hw
  obtain ⟨hx, hb, hml, hr, hts, hown, hlk, hin, hK⟩ := hB
  have hown : s.vm.findClass RX1 = some m.cls := hown
  have hl : lv_has ls 2 [(0, .ref fd), (1, .int x)] := hl
  refine lv_iload_n hx hb dX1_where_0 rfl (lv_at hl 1 rfl) ?_
  have J_4 : ∀ (v_3 : Int32) (ls : Array Slot), lv_has ls 2 [(0, .ref fd), (1, .int x)] → v_3 = (if x < 0 then (-1) else (if nI 7 ≤ x then (-1) else pl x.toNatClampNeg)) → W p l e R s m args below meth c s.heap [] (0) (0) Q (F0 m 23 ls [.int v_3]) := by
    intro v_3 ls hl ev_3
    have hv : v_3 = fdWhere pl x := by
      subst ev_3
      unfold fdWhere
      all_goals rfl
    rw [hQ]
    exact h_iret hx hb hr hlk hsz hw (by simp) (by simp) dX1_where_23 ⟨congrArg (fun z => some (Value.int z)) hv, rfl⟩
  refine lv_if_lt (tgt := 22) hx hb dX1_where_1 (by decide) (fun c_1 => ?_) (fun c_1 => ?_)
  · skip
    refine lv_iconst (v := (-1)) hx hb dX1_where_22 (by decide) ?_
    exact J_4 (-1) ls (lv_sub hl [0, 1] rfl) (by rw [if_pos c_1])
  · skip
    refine lv_iload_n hx hb dX1_where_4 rfl (lv_at hl 1 rfl) ?_
    refine lv_aload_n hx hb dX1_where_5 rfl (lv_at hl 0 rfl) ?_
    refine h_get (ci := 1) (v := .ref pa) (C := RX1) (T := TX1) (N := 2) hx hb hts kl_X1 hown hK hw hef rfl 1 (by decide) (hts _ kf_X1_9) rfl rfl dX1_where_6 ?_
    refine h_alen hx hb hK hw 0 rfl hep dX1_where_9 ?_
    refine lv_icmp_ge (tgt := 22) hx hb dX1_where_10 (by decide) (fun c_2 => ?_) (fun c_2 => ?_)
    · skip
      refine lv_iconst (v := (-1)) hx hb dX1_where_22 (by decide) ?_
      exact J_4 (-1) ls (lv_sub hl [0, 1] rfl) (by rw [if_neg c_1, if_pos c_2])
    · skip
      refine lv_aload_n hx hb dX1_where_13 rfl (lv_at hl 0 rfl) ?_
      refine h_get (ci := 1) (v := .ref pa) (C := RX1) (T := TX1) (N := 2) hx hb hts kl_X1 hown hK hw hef rfl 1 (by decide) (hts _ kf_X1_9) rfl rfl dX1_where_14 ?_
      refine lv_iload_n hx hb dX1_where_17 rfl (lv_at hl 1 rfl) ?_
      refine h_iald hx hb hK hw hep x.toNatClampNeg (nI_cl c_1) (nI_cll c_1 (fun h => c_2 h) (by decide)) (by omega) dX1_where_18 ?_
      refine lv_goto (tgt := 23) hx hb dX1_where_19 (by decide) ?_
      exact J_4 (pl x.toNatClampNeg) ls (lv_sub hl [0, 1] rfl) (by rw [if_neg c_1, if_neg c_2])

set_option maxHeartbeats 4000000 in
set_option maxRecDepth 100000 in
theorem c_X1_init (l : Launch) (D : va_G) (dT : Nat → ClassId) (ah : hA) (sz : Nat) (fd : Nat) (hef : ah fd = some (.inr (1, [.int 0, .null]))) : hMet l yX1_init cX1_init 1 none ({ frames := 1, cells := 1, slots := 7, locals := 23 }) D dT [.ref fd] ah sz (fun r ah2 => r = none ∧ ∃ q : Nat, ah q = none ∧ q ≠ fd ∧ ah2 q = some (.inl (dT 0, 7, .inl (fillF (fun _ => 0) (-1) 7))) ∧ ah2 fd = some (.inr (1, [.int 0, .ref q])) ∧ ∀ a, a ≠ fd → a ≠ q → ah2 a = ah a) 1 7 := by
  refine h_met (by decide) (Nat.le_of_ble_eq_true rfl) ?_
  intro p e s m below meth c ls R Q args hav hR hQ hB hl hsz hw
  obtain ⟨hx, hb, hml, hr, hts, hown, hlk, hin, hK⟩ := hB
  have hown : s.vm.findClass RX1 = some m.cls := hown
  have hl : lv_has ls 1 [(0, .ref fd)] := hl
  refine lv_aload_n hx hb dX1_init_0 rfl (lv_at hl 0 rfl) ?_
  refine W.objInit hx hb hown (hts _ km_X1_3) (hts _ ki_obj) (hts _ ko_obj) rfl (by rw [hml]; exact hl.1) rfl dX1_init_1 (by rw [hR]; exact Nat.le_of_ble_eq_true rfl) (by rw [hR]; exact Nat.le_of_ble_eq_true rfl) ?_
  refine W.eq (g2 := F0 m 4 ls []) rfl ?_
  refine lv_aload_n hx hb dX1_init_4 rfl (lv_at hl 0 rfl) ?_
  refine lv_bipush (v := 7) hx hb dX1_init_5 (by decide) ?_
  refine h_newi hx hb (hts _ kA_int) hK hw 7 (by decide) (by omega) (by rw [hR]; simp; try omega) (by rw [hR]; simp; try omega) dX1_init_7 (fun q_1 H_2 hqq_1 hw => ?_)
  obtain ⟨ah_3, eah_3⟩ : ∃ z9 : hA, z9 = hup ah q_1 (.inl (dT 0, 7, .inl (fun _ => 0))) := ⟨_, rfl⟩
  have hw : hW D ah s.heap ah_3 H_2 [] := by rw [eah_3]; exact hw
  have hne_5 : fd ≠ q_1 := h_fr hef hqq_1
  have hc_4 := (show ah_3 fd = _ from (by rw [eah_3]; exact hup_n (hne_5))).trans hef
  have hc_q_1 : ah_3 q_1 = some (.inl (dT 0, 7, .inl (fun _ => 0))) := by rw [eah_3]; exact hup_s
  refine h_putF (ci := 1) (v := .ref q_1) (C := RX1) (T := TX1) (N := 2) hx hb hts kl_X1 tyX1 tyX1_ok nmX1 hown hK hw hc_4 rfl 1 (by decide) (hts _ kf_X1_9) rfl rfl hin rfl (tyX1_ok 1 (by decide)) rfl rfl (Nat.le_of_ble_eq_true rfl) dX1_init_9 (fun H_6 L_7 hw => ?_)
  obtain ⟨ah_8, eah_8⟩ : ∃ z9 : hA, z9 = hup ah_3 fd (.inr (1, [.int 0, .ref q_1])) := ⟨_, rfl⟩
  have hw : hW D ah s.heap ah_8 H_6 L_7 := by rw [eah_8]; exact hw
  have hc_9 : ah_8 fd = some (.inr (1, [.int 0, .ref q_1])) := by rw [eah_8]; exact hup_s
  have hc_10 := (show ah_8 q_1 = _ from (by rw [eah_8]; exact hup_n (hne_5.symm))).trans hc_q_1
  refine lv_aload_n hx hb dX1_init_12 rfl (lv_at hl 0 rfl) ?_
  refine h_get (ci := 1) (v := .ref q_1) (C := RX1) (T := TX1) (N := 2) hx hb hts kl_X1 hown hK hw hc_9 rfl 1 (by decide) (hts _ kf_X1_9) rfl rfl dX1_init_13 ?_
  refine lv_iconst (v := (-1)) hx hb dX1_init_16 (by decide) ?_
  refine h_callS (n := 2) (As := [.ref q_1, .int (-1)]) (rest := []) ⟨hx, hb, hml, hown, hts⟩ hK hw (c_J7_fill_53178 l D dT ah_8 H_6.size q_1 7 (fun _ => 0) (-1) (by decide) hc_10) ko_J7_fill_53178 km_X1_15 kt_J7_fill_53178 kn_J7 (by decide +kernel) rfl hl.1 rfl (by simp [Value.category]) dX1_init_17 (by rw [hR]; exact ⟨rfl, rfl, by decide, by decide, by decide, by decide⟩) (fun r_11 ah_12 H_13 L_14 st_15 hp hw hst => ?_)
  obtain ⟨rfl, eah_12⟩ := hp
  have hc_16 := (show ah_12 fd = _ from (by rw [eah_12]; exact hup_n (hne_5))).trans hc_9
  have hc_17 : ah_12 q_1 = some (.inl (dT 0, 7, .inl (fillF (fun _ => 0) (-1) 7))) := by rw [eah_12]; exact hup_s
  have hst : st_15 = [] := hst
  subst hst
  rw [hQ]
  exact h_vret hx hb hr hlk hsz hw (by simp) (by simp) dX1_init_20 ⟨rfl, q_1, (by have hn : q_1 ≠ fd := h_ne hc_17 hc_16 (by simp); have h9 := hqq_1; subst_vars; simpa [hup, hn] using h9), h_ne hc_17 hc_16 (by simp), hc_17, hc_16, fun a h1 h2 => by subst_vars; simp [hup, h1, h2]⟩

set_option maxHeartbeats 4000000 in
set_option maxRecDepth 100000 in
theorem c_X1_forget (l : Launch) (D : va_G) (dT : Nat → ClassId) (ah : hA) (sz : Nat) (fd pa : Nat) (wh : Int32) (pl : Nat → Int32) (hef : ah fd = some (.inr (1, [.int wh, .ref pa]))) (hep : ah pa = some (.inl (dT 0, 7, .inl pl))) : hMet l yX1_forget cX1_forget 1 none ({ frames := 1, cells := 0, slots := 0, locals := 23 }) D dT [.ref fd] ah sz (fun r ah2 => r = none ∧ ah2 = hup (hup ah fd (.inr (1, [.int 0, .ref pa]))) pa (.inl (dT 0, 7, .inl (fillF pl (-1) 7)))) 0 0 := by
  refine h_met (by decide) (Nat.le_of_ble_eq_true rfl) ?_
  intro p e s m below meth c ls R Q args hav hR hQ hB hl hsz hw
  obtain ⟨hx, hb, hml, hr, hts, hown, hlk, hin, hK⟩ := hB
  have hown : s.vm.findClass RX1 = some m.cls := hown
  have hl : lv_has ls 1 [(0, .ref fd)] := hl
  refine lv_aload_n hx hb dX1_forget_0 rfl (lv_at hl 0 rfl) ?_
  refine lv_iconst (v := 0) hx hb dX1_forget_1 (by decide) ?_
  refine h_put (ci := 1) (v := .int 0) (C := RX1) (T := TX1) (N := 2) hx hb hts kl_X1 tyX1 tyX1_ok nmX1 hown hK hw hef rfl 0 (by decide) (hts _ kf_X1_21) rfl rfl (tyX1_ok 0 (by decide)) rfl rfl (Nat.le_of_ble_eq_true rfl) dX1_forget_2 (fun H_1 L_2 hw => ?_)
  obtain ⟨ah_3, eah_3⟩ : ∃ z9 : hA, z9 = hup ah fd (.inr (1, [.int 0, .ref pa])) := ⟨_, rfl⟩
  have hw : hW D ah s.heap ah_3 H_1 L_2 := by rw [eah_3]; exact hw
  have hc_4 : ah_3 fd = some (.inr (1, [.int 0, .ref pa])) := by rw [eah_3]; exact hup_s
  have hc_5 := (show ah_3 pa = _ from (by rw [eah_3]; exact hup_n (h_ne hep hef (by simp)))).trans hep
  refine lv_aload_n hx hb dX1_forget_5 rfl (lv_at hl 0 rfl) ?_
  refine h_get (ci := 1) (v := .ref pa) (C := RX1) (T := TX1) (N := 2) hx hb hts kl_X1 hown hK hw hc_4 rfl 1 (by decide) (hts _ kf_X1_9) rfl rfl dX1_forget_6 ?_
  refine lv_iconst (v := (-1)) hx hb dX1_forget_9 (by decide) ?_
  refine h_callS (n := 2) (As := [.ref pa, .int (-1)]) (rest := []) ⟨hx, hb, hml, hown, hts⟩ hK hw (c_J7_fill_53178 l D dT ah_3 H_1.size pa 7 pl (-1) (by decide) hc_5) ko_J7_fill_53178 km_X1_15 kt_J7_fill_53178 kn_J7 (by decide +kernel) rfl hl.1 rfl (by simp [Value.category]) dX1_forget_10 (by rw [hR]; exact ⟨rfl, rfl, by decide, by decide, by decide, by decide⟩) (fun r_6 ah_7 H_8 L_9 st_10 hp hw hst => ?_)
  obtain ⟨rfl, eah_7⟩ := hp
  have hc_11 := (show ah_7 fd = _ from (by rw [eah_7]; exact hup_n (h_ne hc_4 hc_5 (by simp)))).trans hc_4
  have hc_12 : ah_7 pa = some (.inl (dT 0, 7, .inl (fillF pl (-1) 7))) := by rw [eah_7]; exact hup_s
  have hst : st_10 = [] := hst
  subst hst
  rw [hQ]
  exact h_vret hx hb hr hlk hsz hw (by simp) (by simp) dX1_forget_13 ⟨rfl, by subst_vars; rfl⟩

set_option maxHeartbeats 4000000 in
set_option maxRecDepth 100000 in
theorem c_X1_tell (l : Launch) (D : va_G) (dT : Nat → ClassId) (ah : hA) (sz : Nat) (fd pa : Nat) (wh : Int32) (pl : Nat → Int32) (hef : ah fd = some (.inr (1, [.int wh, .ref pa]))) (hep : ah pa = some (.inl (dT 0, 7, .inl pl))) (x y : Int32) : hMet l yX1_tell cX1_tell 3 none ({ frames := 0, cells := 0, slots := 0, locals := 0 }) D dT [.ref fd, .int x, .int y] ah sz (fun r ah2 => r = none ∧ ah2 = hup (hup ah fd (.inr (1, [.int x, .ref pa]))) pa (.inl (dT 0, 7, .inl (upd pl 0 y)))) 0 0 := by
  refine h_met (by decide) (Nat.le_of_ble_eq_true rfl) ?_
  intro p e s m below meth c ls R Q args hav hR hQ hB hl hsz hw
  obtain ⟨hx, hb, hml, hr, hts, hown, hlk, hin, hK⟩ := hB
  have hown : s.vm.findClass RX1 = some m.cls := hown
  have hl : lv_has ls 3 [(0, .ref fd), (1, .int x), (2, .int y)] := hl
  refine lv_aload_n hx hb dX1_tell_0 rfl (lv_at hl 0 rfl) ?_
  refine lv_iload_n hx hb dX1_tell_1 rfl (lv_at hl 1 rfl) ?_
  refine h_put (ci := 1) (v := .int x) (C := RX1) (T := TX1) (N := 2) hx hb hts kl_X1 tyX1 tyX1_ok nmX1 hown hK hw hef rfl 0 (by decide) (hts _ kf_X1_21) rfl rfl (tyX1_ok 0 (by decide)) rfl rfl (Nat.le_of_ble_eq_true rfl) dX1_tell_2 (fun H_1 L_2 hw => ?_)
  obtain ⟨ah_3, eah_3⟩ : ∃ z9 : hA, z9 = hup ah fd (.inr (1, [.int x, .ref pa])) := ⟨_, rfl⟩
  have hw : hW D ah s.heap ah_3 H_1 L_2 := by rw [eah_3]; exact hw
  have hc_4 : ah_3 fd = some (.inr (1, [.int x, .ref pa])) := by rw [eah_3]; exact hup_s
  have hc_5 := (show ah_3 pa = _ from (by rw [eah_3]; exact hup_n (h_ne hep hef (by simp)))).trans hep
  refine lv_aload_n hx hb dX1_tell_5 rfl (lv_at hl 0 rfl) ?_
  refine h_get (ci := 1) (v := .ref pa) (C := RX1) (T := TX1) (N := 2) hx hb hts kl_X1 hown hK hw hc_4 rfl 1 (by decide) (hts _ kf_X1_9) rfl rfl dX1_tell_6 ?_
  refine lv_iconst (v := 0) hx hb dX1_tell_9 (by decide) ?_
  refine lv_iload_n hx hb dX1_tell_10 rfl (lv_at hl 2 rfl) ?_
  refine h_iast hx hb hK hw hc_5 0 (by decide) (by omega) (by omega) dX1_tell_11 (fun H_6 L_7 hw => ?_)
  obtain ⟨ah_8, eah_8⟩ : ∃ z9 : hA, z9 = hup ah_3 pa (.inl (dT 0, 7, .inl (upd pl 0 y))) := ⟨_, rfl⟩
  have hw : hW D ah s.heap ah_8 H_6 L_7 := by rw [eah_8]; exact hw
  have hc_9 := (show ah_8 fd = _ from (by rw [eah_8]; exact hup_n (h_ne hc_4 hc_5 (by simp)))).trans hc_4
  have hc_10 : ah_8 pa = some (.inl (dT 0, 7, .inl (upd pl 0 y))) := by rw [eah_8]; exact hup_s
  rw [hQ]
  exact h_vret hx hb hr hlk hsz hw (by simp) (by simp) dX1_tell_12 ⟨rfl, by subst_vars; rfl⟩

set_option maxHeartbeats 4000000 in
set_option maxRecDepth 100000 in
theorem c_X1_tellAt (l : Launch) (D : va_G) (dT : Nat → ClassId) (ah : hA) (sz : Nat) (fd pa : Nat) (wh : Int32) (pl : Nat → Int32) (hef : ah fd = some (.inr (1, [.int wh, .ref pa]))) (hep : ah pa = some (.inl (dT 0, 7, .inl pl))) (k : Nat) (hk : k + 2 < 7) (x y z : Int32) : hMet l yX1_tellAt cX1_tellAt 5 none ({ frames := 0, cells := 0, slots := 0, locals := 0 }) D dT [.ref fd, .int (nI k), .int x, .int y, .int z] ah sz (fun r ah2 => r = none ∧ ah2 = hup ah pa (.inl (dT 0, 7, .inl (upd (upd (upd pl k x) (k + 1) y) (k + 2) z)))) 0 0 := by
  refine h_met (by decide) (Nat.le_of_ble_eq_true rfl) ?_
  intro p e s m below meth c ls R Q args hav hR hQ hB hl hsz hw
  obtain ⟨hx, hb, hml, hr, hts, hown, hlk, hin, hK⟩ := hB
  have hown : s.vm.findClass RX1 = some m.cls := hown
  have hl : lv_has ls 5 [(0, .ref fd), (1, .int (nI k)), (2, .int x), (3, .int y), (4, .int z)] := hl
  refine lv_iload_n hx hb dX1_tellAt_0 rfl (lv_at hl 1 rfl) ?_
  refine lv_if_lt (tgt := 41) hx hb dX1_tellAt_1 (by decide) (fun c_1 => ?_) (fun c_1 => ?_)
  · skip
    have c_1 : k < 0 := (nI_ltx (by rfl) (by decide) (by omega) (by omega)).mp c_1
    rw [hQ]
    exact h_vret hx hb hr hlk hsz hw (by simp) (by simp) dX1_tellAt_41 ⟨rfl, by first | (subst_vars; simp only [hup_hup]) | (exfalso; omega)⟩
  · skip
    have c_1 : ¬ (k < 0) := (not_congr (nI_ltx (by rfl) (by decide) (by omega) (by omega))).mp c_1
    refine lv_iload_n hx hb dX1_tellAt_4 rfl (lv_at hl 1 rfl) ?_
    refine lv_iconst (v := 2) hx hb dX1_tellAt_5 (by decide) ?_
    refine lv_iadd hx hb dX1_tellAt_6 ?_
    refine lv_topi (fun t_2 et_2 => ?_)
    obtain rfl : t_2 = nI (k + 2) := et_2.trans (nI_c _ 2)
    refine lv_aload_n hx hb dX1_tellAt_7 rfl (lv_at hl 0 rfl) ?_
    refine h_get (ci := 1) (v := .ref pa) (C := RX1) (T := TX1) (N := 2) hx hb hts kl_X1 hown hK hw hef rfl 1 (by decide) (hts _ kf_X1_9) rfl rfl dX1_tellAt_8 ?_
    refine h_alen hx hb hK hw 0 rfl hep dX1_tellAt_11 ?_
    refine lv_icmp_ge (tgt := 41) hx hb dX1_tellAt_12 (by decide) (fun c_3 => ?_) (fun c_3 => ?_)
    · skip
      have c_3 : 7 ≤ k + 2 := (nI_lex (by rfl) (by rfl) (by omega) (by omega)).mp c_3
      rw [hQ]
      exact h_vret hx hb hr hlk hsz hw (by simp) (by simp) dX1_tellAt_41 ⟨rfl, by first | (subst_vars; simp only [hup_hup]) | (exfalso; omega)⟩
    · skip
      have c_3 : ¬ (7 ≤ k + 2) := (not_congr (nI_lex (by rfl) (by rfl) (by omega) (by omega))).mp c_3
      refine lv_aload_n hx hb dX1_tellAt_15 rfl (lv_at hl 0 rfl) ?_
      refine h_get (ci := 1) (v := .ref pa) (C := RX1) (T := TX1) (N := 2) hx hb hts kl_X1 hown hK hw hef rfl 1 (by decide) (hts _ kf_X1_9) rfl rfl dX1_tellAt_16 ?_
      refine lv_iload_n hx hb dX1_tellAt_19 rfl (lv_at hl 1 rfl) ?_
      refine lv_iload_n hx hb dX1_tellAt_20 rfl (lv_at hl 2 rfl) ?_
      refine h_iast hx hb hK hw hep k rfl (by omega) (by omega) dX1_tellAt_21 (fun H_4 L_5 hw => ?_)
      obtain ⟨ah_6, eah_6⟩ : ∃ z9 : hA, z9 = hup ah pa (.inl (dT 0, 7, .inl (upd pl k x))) := ⟨_, rfl⟩
      have hw : hW D ah s.heap ah_6 H_4 L_5 := by rw [eah_6]; exact hw
      have hc_7 := (show ah_6 fd = _ from (by rw [eah_6]; exact hup_n (h_ne hef hep (by simp)))).trans hef
      have hc_8 : ah_6 pa = some (.inl (dT 0, 7, .inl (upd pl k x))) := by rw [eah_6]; exact hup_s
      refine lv_aload_n hx hb dX1_tellAt_22 rfl (lv_at hl 0 rfl) ?_
      refine h_get (ci := 1) (v := .ref pa) (C := RX1) (T := TX1) (N := 2) hx hb hts kl_X1 hown hK hw hc_7 rfl 1 (by decide) (hts _ kf_X1_9) rfl rfl dX1_tellAt_23 ?_
      refine lv_iload_n hx hb dX1_tellAt_26 rfl (lv_at hl 1 rfl) ?_
      refine lv_iconst (v := 1) hx hb dX1_tellAt_27 (by decide) ?_
      refine lv_iadd hx hb dX1_tellAt_28 ?_
      refine lv_topi (fun t_9 et_9 => ?_)
      obtain rfl : t_9 = nI (k + 1) := et_9.trans (nI_c _ 1)
      refine lv_iload_n hx hb dX1_tellAt_29 rfl (lv_at hl 3 rfl) ?_
      refine h_iast hx hb hK hw hc_8 (k + 1) rfl (by omega) (by omega) dX1_tellAt_30 (fun H_10 L_11 hw => ?_)
      obtain ⟨ah_12, eah_12⟩ : ∃ z9 : hA, z9 = hup ah_6 pa (.inl (dT 0, 7, .inl (upd (upd pl k x) (k + 1) y))) := ⟨_, rfl⟩
      have hw : hW D ah s.heap ah_12 H_10 L_11 := by rw [eah_12]; exact hw
      have hc_13 := (show ah_12 fd = _ from (by rw [eah_12]; exact hup_n (h_ne hc_7 hc_8 (by simp)))).trans hc_7
      have hc_14 : ah_12 pa = some (.inl (dT 0, 7, .inl (upd (upd pl k x) (k + 1) y))) := by rw [eah_12]; exact hup_s
      refine lv_aload_n hx hb dX1_tellAt_31 rfl (lv_at hl 0 rfl) ?_
      refine h_get (ci := 1) (v := .ref pa) (C := RX1) (T := TX1) (N := 2) hx hb hts kl_X1 hown hK hw hc_13 rfl 1 (by decide) (hts _ kf_X1_9) rfl rfl dX1_tellAt_32 ?_
      refine lv_iload_n hx hb dX1_tellAt_35 rfl (lv_at hl 1 rfl) ?_
      refine lv_iconst (v := 2) hx hb dX1_tellAt_36 (by decide) ?_
      refine lv_iadd hx hb dX1_tellAt_37 ?_
      refine lv_topi (fun t_15 et_15 => ?_)
      obtain rfl : t_15 = nI (k + 2) := et_15.trans (nI_c _ 2)
      refine lv_iload hx hb dX1_tellAt_38 (lv_at hl 4 rfl) ?_
      refine h_iast hx hb hK hw hc_14 (k + 2) rfl (by omega) (by omega) dX1_tellAt_40 (fun H_16 L_17 hw => ?_)
      obtain ⟨ah_18, eah_18⟩ : ∃ z9 : hA, z9 = hup ah_12 pa (.inl (dT 0, 7, .inl (upd (upd (upd pl k x) (k + 1) y) (k + 2) z))) := ⟨_, rfl⟩
      have hw : hW D ah s.heap ah_18 H_16 L_17 := by rw [eah_18]; exact hw
      have hc_19 := (show ah_18 fd = _ from (by rw [eah_18]; exact hup_n (h_ne hc_13 hc_14 (by simp)))).trans hc_13
      have hc_20 : ah_18 pa = some (.inl (dT 0, 7, .inl (upd (upd (upd pl k x) (k + 1) y) (k + 2) z))) := by rw [eah_18]; exact hup_s
      rw [hQ]
      exact h_vret hx hb hr hlk hsz hw (by simp) (by simp) dX1_tellAt_41 ⟨rfl, by first | (subst_vars; simp only [hup_hup]) | (exfalso; omega)⟩

set_option maxHeartbeats 4000000 in
set_option maxRecDepth 100000 in
theorem c_X1_tellOne (l : Launch) (D : va_G) (dT : Nat → ClassId) (ah : hA) (sz : Nat) (fd pa : Nat) (wh : Int32) (pl : Nat → Int32) (hef : ah fd = some (.inr (1, [.int wh, .ref pa]))) (hep : ah pa = some (.inl (dT 0, 7, .inl pl))) (x y z : Int32) : hMet l yX1_tellOne cX1_tellOne 4 none ({ frames := 1, cells := 0, slots := 0, locals := 24 }) D dT [.ref fd, .int x, .int y, .int z] ah sz (fun r ah2 => r = none ∧ ah2 = hup ah pa (.inl (dT 0, 7, .inl (upd (upd (upd pl 1 x) 2 y) 3 z)))) 0 0 := by
  refine h_met (by decide) (Nat.le_of_ble_eq_true rfl) ?_
  intro p e s m below meth c ls R Q args hav hR hQ hB hl hsz hw
  obtain ⟨hx, hb, hml, hr, hts, hown, hlk, hin, hK⟩ := hB
  have hown : s.vm.findClass RX1 = some m.cls := hown
  have hl : lv_has ls 4 [(0, .ref fd), (1, .int x), (2, .int y), (3, .int z)] := hl
  refine lv_aload_n hx hb dX1_tellOne_0 rfl (lv_at hl 0 rfl) ?_
  refine lv_iconst (v := 1) hx hb dX1_tellOne_1 (by decide) ?_
  refine lv_iload_n hx hb dX1_tellOne_2 rfl (lv_at hl 1 rfl) ?_
  refine lv_iload_n hx hb dX1_tellOne_3 rfl (lv_at hl 2 rfl) ?_
  refine lv_iload_n hx hb dX1_tellOne_4 rfl (lv_at hl 3 rfl) ?_
  refine h_callV (n := 4) (ci := 1) (b := fd) (As := [.int 1, .int x, .int y, .int z]) (rest := []) ⟨hx, hb, hml, hown, hts⟩ hK hw (c_X1_tellAt l D dT ah s.heap.size fd pa wh pl hef hep 1 (by decide) x y z) ko_X1_tellAt km_X1_25 ki_X1_tellAt ks_X1_tellAt kn_X1 (by decide +kernel) rfl hef rfl hl.1 rfl (by simp [Value.category]) dX1_tellOne_5 (by rw [hR]; exact ⟨rfl, rfl, Nat.le_of_ble_eq_true rfl, Nat.le_of_ble_eq_true rfl, by simp, by simp⟩) (fun r_1 ah_2 H_3 L_4 st_5 hp hw hst => ?_)
  obtain ⟨rfl, eah_2⟩ := hp
  have hc_6 := (show ah_2 fd = _ from (by rw [eah_2]; exact hup_n (h_ne hef hep (by simp)))).trans hef
  have hc_7 : ah_2 pa = some (.inl (dT 0, 7, .inl (upd (upd (upd pl 1 x) 2 y) 3 z))) := by rw [eah_2]; exact hup_s
  have hst : st_5 = [] := hst
  subst hst
  rw [hQ]
  exact h_vret hx hb hr hlk hsz hw (by simp) (by simp) dX1_tellOne_8 ⟨rfl, by subst_vars; rfl⟩

set_option maxHeartbeats 4000000 in
set_option maxRecDepth 100000 in
theorem c_X1_tellOther (l : Launch) (D : va_G) (dT : Nat → ClassId) (ah : hA) (sz : Nat) (fd pa : Nat) (wh : Int32) (pl : Nat → Int32) (hef : ah fd = some (.inr (1, [.int wh, .ref pa]))) (hep : ah pa = some (.inl (dT 0, 7, .inl pl))) (x y z : Int32) : hMet l yX1_tellOther cX1_tellOther 4 none ({ frames := 1, cells := 0, slots := 0, locals := 24 }) D dT [.ref fd, .int x, .int y, .int z] ah sz (fun r ah2 => r = none ∧ ah2 = hup ah pa (.inl (dT 0, 7, .inl (upd (upd (upd pl 4 x) 5 y) 6 z)))) 0 0 := by
  refine h_met (by decide) (Nat.le_of_ble_eq_true rfl) ?_
  intro p e s m below meth c ls R Q args hav hR hQ hB hl hsz hw
  obtain ⟨hx, hb, hml, hr, hts, hown, hlk, hin, hK⟩ := hB
  have hown : s.vm.findClass RX1 = some m.cls := hown
  have hl : lv_has ls 4 [(0, .ref fd), (1, .int x), (2, .int y), (3, .int z)] := hl
  refine lv_aload_n hx hb dX1_tellOther_0 rfl (lv_at hl 0 rfl) ?_
  refine lv_iconst (v := 4) hx hb dX1_tellOther_1 (by decide) ?_
  refine lv_iload_n hx hb dX1_tellOther_2 rfl (lv_at hl 1 rfl) ?_
  refine lv_iload_n hx hb dX1_tellOther_3 rfl (lv_at hl 2 rfl) ?_
  refine lv_iload_n hx hb dX1_tellOther_4 rfl (lv_at hl 3 rfl) ?_
  refine h_callV (n := 4) (ci := 1) (b := fd) (As := [.int 4, .int x, .int y, .int z]) (rest := []) ⟨hx, hb, hml, hown, hts⟩ hK hw (c_X1_tellAt l D dT ah s.heap.size fd pa wh pl hef hep 4 (by decide) x y z) ko_X1_tellAt km_X1_25 ki_X1_tellAt ks_X1_tellAt kn_X1 (by decide +kernel) rfl hef rfl hl.1 rfl (by simp [Value.category]) dX1_tellOther_5 (by rw [hR]; exact ⟨rfl, rfl, Nat.le_of_ble_eq_true rfl, Nat.le_of_ble_eq_true rfl, by simp, by simp⟩) (fun r_1 ah_2 H_3 L_4 st_5 hp hw hst => ?_)
  obtain ⟨rfl, eah_2⟩ := hp
  have hc_6 := (show ah_2 fd = _ from (by rw [eah_2]; exact hup_n (h_ne hef hep (by simp)))).trans hef
  have hc_7 : ah_2 pa = some (.inl (dT 0, 7, .inl (upd (upd (upd pl 4 x) 5 y) 6 z))) := by rw [eah_2]; exact hup_s
  have hst : st_5 = [] := hst
  subst hst
  rw [hQ]
  exact h_vret hx hb hr hlk hsz hw (by simp) (by simp) dX1_tellOther_8 ⟨rfl, by subst_vars; rfl⟩

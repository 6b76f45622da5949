/-! Arrays.copyOf, ShapeJudge$Row -/
/-- how many slots a row takes when it grows -/
def rwG (n cap : Nat) : Nat := if n < cap then 0 else 2 * cap
set_option maxHeartbeats 4000000 in
set_option maxRecDepth 100000 in
theorem c_J7_copyOf_59c91 (l : Launch) (D : va_G) (dT : Nat → ClassId) (ah : hA) (sz : Nat) (a n0 n1 : Nat) (f : Nat → Int32) (h01 : n0 < n1) (hn1 : n1 ≤ 100000000) (hea : ah a = some (.inl (dT 0, n0, .inl f))) : hMet l yJ7_copyOf_59c91 cJ7_copyOf_59c91 3 (some (.array .int)) ({ frames := 2, cells := 1, slots := n1, locals := 60 }) D dT [.ref a, .int (nI n1)] ah sz (fun r ah2 => ∃ q : Nat, r = some (.ref q) ∧ ah q = none ∧ ah2 = hup ah q (.inl (dT 0, n1, .inl (va_cpy f (fun _ => 0) 0 0 n0)))) 1 n1 := by
  refine h_met (by decide) (Nat.le_of_ble_eq_true rfl) ?_
  intro p e s m below meth c ls R Q args hav hR hQ hB hl hsz hw
  obtain ⟨hx, hb, hml, hr, hts, hown, hlk, hin, hK⟩ := hB
  have hown : s.vm.findClass RJ7 = some m.cls := hown
  have hl : lv_has ls 3 [(0, .ref a), (1, .int (nI n1))] := hl
  refine lv_iload_n hx hb dJ7_copyOf_59c91_0 rfl (lv_at hl 1 rfl) ?_
  refine lv_aload_n hx hb dJ7_copyOf_59c91_1 rfl (lv_at hl 0 rfl) ?_
  refine h_alen hx hb hK hw 0 rfl hea dJ7_copyOf_59c91_2 ?_
  refine lv_icmp_ne (tgt := 14) hx hb dJ7_copyOf_59c91_3 (by decide) (fun c_1 => ?_) (fun c_1 => ?_)
  · skip
    have c_1 : ¬ (n1 = n0) := (not_congr (nI_eqx (by rfl) (by rfl) (by omega) (by omega))).mp c_1
    refine lv_iload_n hx hb dJ7_copyOf_59c91_14 rfl (lv_at hl 1 rfl) ?_
    refine h_newi hx hb (hts _ kA_int) hK hw n1 rfl (by omega) (by rw [hR]; simp) (by rw [hR]; simp) dJ7_copyOf_59c91_15 (fun q_2 H_3 hqq_2 hw => ?_)
    obtain ⟨ah_4, eah_4⟩ : ∃ z9 : hA, z9 = hup ah q_2 (.inl (dT 0, n1, .inl (fun _ => 0))) := ⟨_, rfl⟩
    have hw : hW D ah s.heap ah_4 H_3 [] := by rw [eah_4]; exact hw
    have hne_6 : a ≠ q_2 := h_fr hea hqq_2
    have hc_5 := (show ah_4 a = _ from (by rw [eah_4]; exact hup_n (hne_6))).trans hea
    have hc_q_2 : ah_4 q_2 = some (.inl (dT 0, n1, .inl (fun _ => 0))) := by rw [eah_4]; exact hup_s
    refine lv_astore_n (lv' := [(2, .ref q_2), (0, .ref a), (1, .int (nI n1))]) hx hb dJ7_copyOf_59c91_17 rfl hl (by decide) rfl (fun ls hl => ?_)
    refine lv_aload_n hx hb dJ7_copyOf_59c91_18 rfl (lv_at hl 1 rfl) ?_
    refine lv_iconst (v := 0) hx hb dJ7_copyOf_59c91_19 (by decide) ?_
    refine lv_aload_n hx hb dJ7_copyOf_59c91_20 rfl (lv_at hl 0 rfl) ?_
    refine lv_iconst (v := 0) hx hb dJ7_copyOf_59c91_21 (by decide) ?_
    refine lv_aload_n hx hb dJ7_copyOf_59c91_22 rfl (lv_at hl 1 rfl) ?_
    refine h_alen hx hb hK hw 0 rfl hc_5 dJ7_copyOf_59c91_23 ?_
    refine lv_iload_n hx hb dJ7_copyOf_59c91_24 rfl (lv_at hl 2 rfl) ?_
    refine va_mmin hx hb (by rw [hml]; exact hl.1.symm) hown (hts _ km_J7_304) (hts _ kt_J9_min_7cf53) (hts _ kn_J9) (hts _ ko_Math_min) (by rw [hR]; exact Nat.le_of_ble_eq_true rfl) (by rw [hR]; exact Nat.le_of_ble_eq_true rfl) (by rw [hR]; simp) (by rw [hR]; simp) dJ7_copyOf_59c91_25 ?_
    refine lv_topi (fun t_7 et_7 => ?_)
    obtain rfl : t_7 = nI n0 := et_7.trans (if_neg (nI_nlt (by omega) (by omega)))
    refine h_copyi hx hb (by rw [hml]; exact hl.1.symm) hown (hts _ km_J7_150) (hts _ kv_arraycopy) (hts _ kt_arraycopy) (hts _ kn_J10) hK hw hc_5 hc_q_2 n0 (by omega) (by omega) (by omega) (by rw [hR]; exact Nat.le_of_ble_eq_true rfl) (by rw [hR]; exact Nat.le_of_ble_eq_true rfl) dJ7_copyOf_59c91_28 (fun H_8 L_9 hw => ?_)
    obtain ⟨ah_10, eah_10⟩ : ∃ z9 : hA, z9 = hup ah_4 q_2 (.inl (dT 0, n1, .inl (va_cpy f (fun _ => 0) 0 0 n0))) := ⟨_, rfl⟩
    have hw : hW D ah s.heap ah_10 H_8 L_9 := by rw [eah_10]; exact hw
    have hc_11 := (show ah_10 a = _ from (by rw [eah_10]; exact hup_n (hne_6))).trans hc_5
    have hc_12 : ah_10 q_2 = some (.inl (dT 0, n1, .inl (va_cpy f (fun _ => 0) 0 0 n0))) := by rw [eah_10]; exact hup_s
    refine lv_aload_n hx hb dJ7_copyOf_59c91_31 rfl (lv_at hl 0 rfl) ?_
    rw [hQ]
    exact h_aret hx hb hr (Or.inr ⟨_, rfl⟩) hlk hsz hw (by simp) (by simp) dJ7_copyOf_59c91_32 ⟨_, rfl, hqq_2, by subst_vars; simp only [hup_hup]⟩
  · skip
    have c_1 : n1 = n0 := (nI_eqx (by rfl) (by rfl) (by omega) (by omega)).mp c_1
    exfalso
    omega

set_option maxHeartbeats 4000000 in
set_option maxRecDepth 100000 in
theorem c_X6_size (l : Launch) (D : va_G) (dT : Nat → ClassId) (ah : hA) (sz : Nat) (r a cap n : Nat) (f : Nat → Int32) (hnc : n ≤ cap) (hcap : cap ≤ 100000) (her : ah r = some (.inr (6, [.ref a, .int (nI n)]))) (hea : ah a = some (.inl (dT 0, cap, .inl f))) : hMet l yX6_size cX6_size 1 (some .int) ({ frames := 0, cells := 0, slots := 0, locals := 0 }) D dT [.ref r] ah sz (fun v ah2 => v = some (.int (nI n)) ∧ ah = ah2) 0 0 := by
  refine h_met (by decide) (Nat.le_of_ble_eq_true rfl) ?_
  intro p e s m below meth c ls R Q args hav hR hQ hB hl hsz hw
  obtain ⟨hx, hb, hml, hr, hts, hown, hlk, hin, hK⟩ := hB
  have hown : s.vm.findClass RX6 = some m.cls := hown
  have hl : lv_has ls 1 [(0, .ref r)] := hl
  refine lv_aload_n hx hb dX6_size_0 rfl (lv_at hl 0 rfl) ?_
  refine h_get (ci := 6) (v := .int (nI n)) (C := RX6) (T := TX6) (N := 2) hx hb hts kl_X6 hown hK hw her rfl 1 (by decide) (hts _ kf_X6_15) rfl rfl dX6_size_1 ?_
  rw [hQ]
  exact h_iret hx hb hr hlk hsz hw (by simp) (by simp) dX6_size_4 ⟨rfl, rfl⟩

def rwGet (f : Nat → Int32) (n : Nat) (x : Int32) : Int32 := (if x < 0 then 0 else (if nI n ≤ x then 0 else f x.toNatClampNeg))
set_option maxHeartbeats 4000000 in
set_option maxRecDepth 100000 in
theorem c_X6_get (l : Launch) (D : va_G) (dT : Nat → ClassId) (ah : hA) (sz : Nat) (r a cap n : Nat) (f : Nat → Int32) (hnc : n ≤ cap) (hcap : cap ≤ 100000) (her : ah r = some (.inr (6, [.ref a, .int (nI n)]))) (hea : ah a = some (.inl (dT 0, cap, .inl f))) (x : Int32) : hMet l yX6_get cX6_get 2 (some .int) ({ frames := 0, cells := 0, slots := 0, locals := 0 }) D dT [.ref r, .int x] ah sz (fun v ah2 => v = some (.int (rwGet f n x)) ∧ ah = ah2) 0 0 := by
  refine h_met (by decide) (Nat.le_of_ble_eq_true rfl) ?_
  intro p e s m below meth c ls R Q args hav hR hQ hB hl hsz hw
  obtain ⟨hx, hb, hml, hr, hts, hown, hlk, hin, hK⟩ := hB
  have hown : s.vm.findClass RX6 = some m.cls := hown
  have hl : lv_has ls 2 [(0, .ref r), (1, .int x)] := hl
  refine lv_iload_n hx hb dX6_get_0 rfl (lv_at hl 1 rfl) ?_
  have J_4 : ∀ (v_3 : Int32) (ls : Array Slot), lv_has ls 2 [(0, .ref r), (1, .int x)] → v_3 = (if x < 0 then 0 else (if nI n ≤ x then 0 else f x.toNatClampNeg)) → W p l e R s m args below meth c s.heap [] (0) (0) Q (F0 m 22 ls [.int v_3]) := by
    intro v_3 ls hl ev_3
    have hv : v_3 = rwGet f n x := by
      subst ev_3
      unfold rwGet
      all_goals rfl
    rw [hQ]
    exact h_iret hx hb hr hlk hsz hw (by simp) (by simp) dX6_get_22 ⟨congrArg (fun z => some (Value.int z)) hv, rfl⟩
  refine lv_if_lt (tgt := 21) hx hb dX6_get_1 (by decide) (fun c_1 => ?_) (fun c_1 => ?_)
  · skip
    refine lv_iconst (v := 0) hx hb dX6_get_21 (by decide) ?_
    exact J_4 0 ls (lv_sub hl [0, 1] rfl) (by rw [if_pos c_1])
  · skip
    refine lv_iload_n hx hb dX6_get_4 rfl (lv_at hl 1 rfl) ?_
    refine lv_aload_n hx hb dX6_get_5 rfl (lv_at hl 0 rfl) ?_
    refine h_get (ci := 6) (v := .int (nI n)) (C := RX6) (T := TX6) (N := 2) hx hb hts kl_X6 hown hK hw her rfl 1 (by decide) (hts _ kf_X6_15) rfl rfl dX6_get_6 ?_
    refine lv_icmp_ge (tgt := 21) hx hb dX6_get_9 (by decide) (fun c_2 => ?_) (fun c_2 => ?_)
    · skip
      refine lv_iconst (v := 0) hx hb dX6_get_21 (by decide) ?_
      exact J_4 0 ls (lv_sub hl [0, 1] rfl) (by rw [if_neg c_1, if_pos c_2])
    · skip
      refine lv_aload_n hx hb dX6_get_12 rfl (lv_at hl 0 rfl) ?_
      refine h_get (ci := 6) (v := .ref a) (C := RX6) (T := TX6) (N := 2) hx hb hts kl_X6 hown hK hw her rfl 0 (by decide) (hts _ kf_X6_9) rfl rfl dX6_get_13 ?_
      refine lv_iload_n hx hb dX6_get_16 rfl (lv_at hl 1 rfl) ?_
      refine h_iald hx hb hK hw hea x.toNatClampNeg (nI_cl c_1) (Nat.lt_of_lt_of_le (nI_cll c_1 c_2 (by omega)) hnc) (by omega) dX6_get_17 ?_
      refine lv_goto (tgt := 22) hx hb dX6_get_18 (by decide) ?_
      exact J_4 (f x.toNatClampNeg) ls (lv_sub hl [0, 1] rfl) (by rw [if_neg c_1, if_neg c_2])

set_option maxHeartbeats 4000000 in
set_option maxRecDepth 100000 in
theorem c_X6_last (l : Launch) (D : va_G) (dT : Nat → ClassId) (ah : hA) (sz : Nat) (r a cap n : Nat) (f : Nat → Int32) (hnc : n ≤ cap) (hcap : cap ≤ 100000) (her : ah r = some (.inr (6, [.ref a, .int (nI n)]))) (hea : ah a = some (.inl (dT 0, cap, .inl f))) : hMet l yX6_last cX6_last 1 (some .int) ({ frames := 1, cells := 0, slots := 0, locals := 21 }) D dT [.ref r] ah sz (fun v ah2 => v = some (.int (rwGet f n (nI n - 1))) ∧ ah = ah2) 0 0 := by
  refine h_met (by decide) (Nat.le_of_ble_eq_true rfl) ?_
  intro p e s m below meth c ls R Q args hav hR hQ hB hl hsz hw
  obtain ⟨hx, hb, hml, hr, hts, hown, hlk, hin, hK⟩ := hB
  have hown : s.vm.findClass RX6 = some m.cls := hown
  have hl : lv_has ls 1 [(0, .ref r)] := hl
  refine lv_aload_n hx hb dX6_last_0 rfl (lv_at hl 0 rfl) ?_
  refine lv_aload_n hx hb dX6_last_1 rfl (lv_at hl 0 rfl) ?_
  refine h_get (ci := 6) (v := .int (nI n)) (C := RX6) (T := TX6) (N := 2) hx hb hts kl_X6 hown hK hw her rfl 1 (by decide) (hts _ kf_X6_15) rfl rfl dX6_last_2 ?_
  refine lv_iconst (v := 1) hx hb dX6_last_5 (by decide) ?_
  refine lv_isub hx hb dX6_last_6 ?_
  refine h_callV (n := 1) (ci := 6) (b := r) (As := [.int (nI n - 1)]) (rest := []) ⟨hx, hb, hml, hown, hts⟩ hK hw (c_X6_get l D dT ah s.heap.size r a cap n f (by omega) (by omega) her hea (nI n - 1)) ko_X6_get km_X6_19 ki_X6_get ks_X6_get kn_X6 (by decide +kernel) rfl her rfl hl.1 rfl (by simp [Value.category]) dX6_last_7 (by rw [hR]; exact ⟨rfl, rfl, Nat.le_of_ble_eq_true rfl, Nat.le_of_ble_eq_true rfl, by simp, by simp⟩) (fun r_1 ah_2 H_3 L_4 st_5 hp hw hst => ?_)
  obtain ⟨rfl, rfl⟩ := hp
  have hst : st_5 = [.int (rwGet f n (nI n - 1))] := hst
  subst hst
  rw [hQ]
  exact h_iret hx hb hr hlk hsz hw (by simp) (by simp) dX6_last_10 ⟨rfl, rfl⟩

set_option maxHeartbeats 4000000 in
set_option maxRecDepth 100000 in
theorem c_X6_empty (l : Launch) (D : va_G) (dT : Nat → ClassId) (ah : hA) (sz : Nat) (r a cap n : Nat) (f : Nat → Int32) (hnc : n ≤ cap) (hcap : cap ≤ 100000) (her : ah r = some (.inr (6, [.ref a, .int (nI n)]))) (hea : ah a = some (.inl (dT 0, cap, .inl f))) : hMet l yX6_empty cX6_empty 1 none ({ frames := 0, cells := 0, slots := 0, locals := 0 }) D dT [.ref r] ah sz (fun v ah2 => v = none ∧ ah2 = hup ah r (.inr (6, [.ref a, .int (nI 0)]))) 0 0 := by
  refine h_met (by decide) (Nat.le_of_ble_eq_true rfl) ?_
  intro p e s m below meth c ls R Q args hav hR hQ hB hl hsz hw
  obtain ⟨hx, hb, hml, hr, hts, hown, hlk, hin, hK⟩ := hB
  have hown : s.vm.findClass RX6 = some m.cls := hown
  have hl : lv_has ls 1 [(0, .ref r)] := hl
  refine lv_aload_n hx hb dX6_empty_0 rfl (lv_at hl 0 rfl) ?_
  refine lv_iconst (v := 0) hx hb dX6_empty_1 (by decide) ?_
  refine h_put (ci := 6) (v := .int 0) (C := RX6) (T := TX6) (N := 2) hx hb hts kl_X6 tyX6 tyX6_ok nmX6 hown hK hw her rfl 1 (by decide) (hts _ kf_X6_15) rfl rfl (tyX6_ok 1 (by decide)) rfl rfl (Nat.le_of_ble_eq_true rfl) dX6_empty_2 (fun H_1 L_2 hw => ?_)
  obtain ⟨ah_3, eah_3⟩ : ∃ z9 : hA, z9 = hup ah r (.inr (6, [.ref a, .int 0])) := ⟨_, rfl⟩
  have hw : hW D ah s.heap ah_3 H_1 L_2 := by rw [eah_3]; exact hw
  have hc_4 : ah_3 r = some (.inr (6, [.ref a, .int 0])) := by rw [eah_3]; exact hup_s
  have hc_5 := (show ah_3 a = _ from (by rw [eah_3]; exact hup_n (h_ne hea her (by simp)))).trans hea
  rw [hQ]
  exact h_vret hx hb hr hlk hsz hw (by simp) (by simp) dX6_empty_5 ⟨rfl, by subst_vars; rfl⟩

set_option maxHeartbeats 4000000 in
set_option maxRecDepth 100000 in
theorem c_X6_dropLast (l : Launch) (D : va_G) (dT : Nat → ClassId) (ah : hA) (sz : Nat) (r a cap n : Nat) (f : Nat → Int32) (hnc : n ≤ cap) (hcap : cap ≤ 100000) (her : ah r = some (.inr (6, [.ref a, .int (nI n)]))) (hea : ah a = some (.inl (dT 0, cap, .inl f))) : hMet l yX6_dropLast cX6_dropLast 1 none ({ frames := 0, cells := 0, slots := 0, locals := 0 }) D dT [.ref r] ah sz (fun v ah2 => v = none ∧ ah2 = hup ah r (.inr (6, [.ref a, .int (nI (n - 1))]))) 0 0 := by
  refine h_met (by decide) (Nat.le_of_ble_eq_true rfl) ?_
  intro p e s m below meth c ls R Q args hav hR hQ hB hl hsz hw
  obtain ⟨hx, hb, hml, hr, hts, hown, hlk, hin, hK⟩ := hB
  have hown : s.vm.findClass RX6 = some m.cls := hown
  have hl : lv_has ls 1 [(0, .ref r)] := hl
  refine lv_aload_n hx hb dX6_dropLast_0 rfl (lv_at hl 0 rfl) ?_
  refine h_get (ci := 6) (v := .int (nI n)) (C := RX6) (T := TX6) (N := 2) hx hb hts kl_X6 hown hK hw her rfl 1 (by decide) (hts _ kf_X6_15) rfl rfl dX6_dropLast_1 ?_
  refine lv_if_le (tgt := 17) hx hb dX6_dropLast_4 (by decide) (fun c_1 => ?_) (fun c_1 => ?_)
  · skip
    have c_1 : n ≤ 0 := (nI_lex (by rfl) (by decide) (by omega) (by omega)).mp c_1
    rw [hQ]
    exact h_vret hx hb hr hlk hsz hw (by simp) (by simp) dX6_dropLast_17 ⟨rfl, by first | (subst_vars; rfl) | (rw [show n - 1 = n by omega]; exact (hup_id her).symm)⟩
  · skip
    have c_1 : ¬ (n ≤ 0) := (not_congr (nI_lex (by rfl) (by decide) (by omega) (by omega))).mp c_1
    refine lv_aload_n hx hb dX6_dropLast_7 rfl (lv_at hl 0 rfl) ?_
    refine lv_dup hx hb dX6_dropLast_8 rfl ?_
    refine h_get (ci := 6) (v := .int (nI n)) (C := RX6) (T := TX6) (N := 2) hx hb hts kl_X6 hown hK hw her rfl 1 (by decide) (hts _ kf_X6_15) rfl rfl dX6_dropLast_9 ?_
    refine lv_iconst (v := 1) hx hb dX6_dropLast_12 (by decide) ?_
    refine lv_isub hx hb dX6_dropLast_13 ?_
    refine lv_topi (fun t_2 et_2 => ?_)
    obtain rfl : t_2 = nI (n - 1) := et_2.trans (nI_s _ 1 (by omega))
    refine h_put (ci := 6) (v := .int (nI (n - 1))) (C := RX6) (T := TX6) (N := 2) hx hb hts kl_X6 tyX6 tyX6_ok nmX6 hown hK hw her rfl 1 (by decide) (hts _ kf_X6_15) rfl rfl (tyX6_ok 1 (by decide)) rfl rfl (Nat.le_of_ble_eq_true rfl) dX6_dropLast_14 (fun H_3 L_4 hw => ?_)
    obtain ⟨ah_5, eah_5⟩ : ∃ z9 : hA, z9 = hup ah r (.inr (6, [.ref a, .int (nI (n - 1))])) := ⟨_, rfl⟩
    have hw : hW D ah s.heap ah_5 H_3 L_4 := by rw [eah_5]; exact hw
    have hc_6 : ah_5 r = some (.inr (6, [.ref a, .int (nI (n - 1))])) := by rw [eah_5]; exact hup_s
    have hc_7 := (show ah_5 a = _ from (by rw [eah_5]; exact hup_n (h_ne hea her (by simp)))).trans hea
    rw [hQ]
    exact h_vret hx hb hr hlk hsz hw (by simp) (by simp) dX6_dropLast_17 ⟨rfl, by first | (subst_vars; rfl) | (rw [show n - 1 = n by omega]; exact (hup_id her).symm)⟩

set_option maxHeartbeats 4000000 in
set_option maxRecDepth 100000 in
theorem c_X6_init (l : Launch) (D : va_G) (dT : Nat → ClassId) (ah : hA) (sz : Nat) (r : Nat) (her : ah r = some (.inr (6, [.null, .int 0]))) : hMet l yX6_init cX6_init 1 none ({ frames := 1, cells := 1, slots := 32, locals := 20 }) D dT [.ref r] ah sz (fun v ah2 => v = none ∧ ∃ q : Nat, ah q = none ∧ ah2 = hup (hup ah q (.inl (dT 0, 32, .inl (fun _ => 0)))) r (.inr (6, [.ref q, .int (nI 0)]))) 1 32 := by
  refine h_met (by decide) (Nat.le_of_ble_eq_true rfl) ?_
  intro p e s m below meth c ls R Q args hav hR hQ hB hl hsz hw
  obtain ⟨hx, hb, hml, hr, hts, hown, hlk, hin, hK⟩ := hB
  have hown : s.vm.findClass RX6 = some m.cls := hown
  have hl : lv_has ls 1 [(0, .ref r)] := hl
  refine lv_aload_n hx hb dX6_init_0 rfl (lv_at hl 0 rfl) ?_
  refine W.objInit hx hb hown (hts _ km_X6_3) (hts _ ki_obj) (hts _ ko_obj) rfl (by rw [hml]; exact hl.1) rfl dX6_init_1 (by rw [hR]; exact Nat.le_of_ble_eq_true rfl) (by rw [hR]; exact Nat.le_of_ble_eq_true rfl) ?_
  refine W.eq (g2 := F0 m 4 ls []) rfl ?_
  refine lv_aload_n hx hb dX6_init_4 rfl (lv_at hl 0 rfl) ?_
  refine lv_bipush (v := 32) hx hb dX6_init_5 (by decide) ?_
  refine h_newi hx hb (hts _ kA_int) hK hw 32 (by decide) (by omega) (by rw [hR]; simp; try omega) (by rw [hR]; simp; try omega) dX6_init_7 (fun q_1 H_2 hqq_1 hw => ?_)
  obtain ⟨ah_3, eah_3⟩ : ∃ z9 : hA, z9 = hup ah q_1 (.inl (dT 0, 32, .inl (fun _ => 0))) := ⟨_, rfl⟩
  have hw : hW D ah s.heap ah_3 H_2 [] := by rw [eah_3]; exact hw
  have hne_5 : r ≠ q_1 := h_fr her hqq_1
  have hc_4 := (show ah_3 r = _ from (by rw [eah_3]; exact hup_n (hne_5))).trans her
  have hc_q_1 : ah_3 q_1 = some (.inl (dT 0, 32, .inl (fun _ => 0))) := by rw [eah_3]; exact hup_s
  refine h_put (ci := 6) (v := .ref q_1) (C := RX6) (T := TX6) (N := 2) hx hb hts kl_X6 tyX6 tyX6_ok nmX6 hown hK hw hc_4 rfl 0 (by decide) (hts _ kf_X6_9) rfl rfl (tyX6_ok 0 (by decide)) rfl rfl (Nat.le_of_ble_eq_true rfl) dX6_init_9 (fun H_6 L_7 hw => ?_)
  obtain ⟨ah_8, eah_8⟩ : ∃ z9 : hA, z9 = hup ah_3 r (.inr (6, [.ref q_1, .int 0])) := ⟨_, rfl⟩
  have hw : hW D ah s.heap ah_8 H_6 L_7 := by rw [eah_8]; exact hw
  have hc_9 : ah_8 r = some (.inr (6, [.ref q_1, .int 0])) := by rw [eah_8]; exact hup_s
  have hc_10 := (show ah_8 q_1 = _ from (by rw [eah_8]; exact hup_n (hne_5.symm))).trans hc_q_1
  rw [hQ]
  exact h_vret hx hb hr hlk hsz hw (by simp) (by simp) dX6_init_12 ⟨rfl, q_1, hqq_1, by subst_vars; rfl⟩

set_option maxHeartbeats 4000000 in
set_option maxRecDepth 100000 in
theorem c_X6_add (l : Launch) (D : va_G) (dT : Nat → ClassId) (ah : hA) (sz : Nat) (r a cap n : Nat) (f : Nat → Int32) (h32 : 32 ≤ cap) (hnc : n ≤ cap) (hcap : cap ≤ 100000) (her : ah r = some (.inr (6, [.ref a, .int (nI n)]))) (hea : ah a = some (.inl (dT 0, cap, .inl f))) (x : Int32) : hMet l yX6_add cX6_add 2 none ({ frames := 3, cells := 1, slots := (rwG n cap), locals := 82 }) D dT [.ref r, .int x] ah sz (fun v ah2 => v = none ∧ ∃ a2 cap2 f2, (a2 = a ∧ cap2 = cap ∧ n < cap ∨ ah a2 = none ∧ cap2 = 2 * cap ∧ n = cap) ∧ n < cap2 ∧ (∀ j, j < n → f2 j = f j) ∧ f2 n = x ∧ ah2 = hup (hup ah a2 (.inl (dT 0, cap2, .inl f2))) r (.inr (6, [.ref a2, .int (nI (n + 1))]))) 1 (rwG n cap) := by
  refine h_met (by decide) (Nat.le_of_ble_eq_true rfl) ?_
  intro p e s m below meth c ls R Q args hav hR hQ hB hl hsz hw
  obtain ⟨hx, hb, hml, hr, hts, hown, hlk, hin, hK⟩ := hB
  have hown : s.vm.findClass RX6 = some m.cls := hown
  have hl : lv_has ls 2 [(0, .ref r), (1, .int x)] := hl
  refine lv_aload_n hx hb dX6_add_0 rfl (lv_at hl 0 rfl) ?_
  refine h_get (ci := 6) (v := .int (nI n)) (C := RX6) (T := TX6) (N := 2) hx hb hts kl_X6 hown hK hw her rfl 1 (by decide) (hts _ kf_X6_15) rfl rfl dX6_add_1 ?_
  refine lv_aload_n hx hb dX6_add_4 rfl (lv_at hl 0 rfl) ?_
  refine h_get (ci := 6) (v := .ref a) (C := RX6) (T := TX6) (N := 2) hx hb hts kl_X6 hown hK hw her rfl 0 (by decide) (hts _ kf_X6_9) rfl rfl dX6_add_5 ?_
  refine h_alen hx hb hK hw 0 rfl hea dX6_add_8 ?_
  refine lv_icmp_lt (tgt := 30) hx hb dX6_add_9 (by decide) (fun c_1 => ?_) (fun c_1 => ?_)
  · skip
    have c_1 : n < cap := (nI_ltx (by rfl) (by rfl) (by omega) (by omega)).mp c_1
    refine lv_aload_n hx hb dX6_add_30 rfl (lv_at hl 0 rfl) ?_
    refine h_get (ci := 6) (v := .ref a) (C := RX6) (T := TX6) (N := 2) hx hb hts kl_X6 hown hK hw her rfl 0 (by decide) (hts _ kf_X6_9) rfl rfl dX6_add_31 ?_
    refine lv_aload_n hx hb dX6_add_34 rfl (lv_at hl 0 rfl) ?_
    refine h_get (ci := 6) (v := .int (nI n)) (C := RX6) (T := TX6) (N := 2) hx hb hts kl_X6 hown hK hw her rfl 1 (by decide) (hts _ kf_X6_15) rfl rfl dX6_add_35 ?_
    refine lv_iload_n hx hb dX6_add_38 rfl (lv_at hl 1 rfl) ?_
    refine h_iast hx hb hK hw hea n rfl (by omega) (by omega) dX6_add_39 (fun H_2 L_3 hw => ?_)
    obtain ⟨ah_4, eah_4⟩ : ∃ z9 : hA, z9 = hup ah a (.inl (dT 0, cap, .inl (upd f n x))) := ⟨_, rfl⟩
    have hw : hW D ah s.heap ah_4 H_2 L_3 := by rw [eah_4]; exact hw
    have hc_5 := (show ah_4 r = _ from (by rw [eah_4]; exact hup_n (h_ne her hea (by simp)))).trans her
    have hc_6 : ah_4 a = some (.inl (dT 0, cap, .inl (upd f n x))) := by rw [eah_4]; exact hup_s
    refine lv_aload_n hx hb dX6_add_40 rfl (lv_at hl 0 rfl) ?_
    refine lv_dup hx hb dX6_add_41 rfl ?_
    refine h_get (ci := 6) (v := .int (nI n)) (C := RX6) (T := TX6) (N := 2) hx hb hts kl_X6 hown hK hw hc_5 rfl 1 (by decide) (hts _ kf_X6_15) rfl rfl dX6_add_42 ?_
    refine lv_iconst (v := 1) hx hb dX6_add_45 (by decide) ?_
    refine lv_iadd hx hb dX6_add_46 ?_
    refine lv_topi (fun t_7 et_7 => ?_)
    obtain rfl : t_7 = nI (n + 1) := et_7.trans (nI_c _ 1)
    refine h_put (ci := 6) (v := .int (nI (n + 1))) (C := RX6) (T := TX6) (N := 2) hx hb hts kl_X6 tyX6 tyX6_ok nmX6 hown hK hw hc_5 rfl 1 (by decide) (hts _ kf_X6_15) rfl rfl (tyX6_ok 1 (by decide)) rfl rfl (Nat.le_of_ble_eq_true rfl) dX6_add_47 (fun H_8 L_9 hw => ?_)
    obtain ⟨ah_10, eah_10⟩ : ∃ z9 : hA, z9 = hup ah_4 r (.inr (6, [.ref a, .int (nI (n + 1))])) := ⟨_, rfl⟩
    have hw : hW D ah s.heap ah_10 H_8 L_9 := by rw [eah_10]; exact hw
    have hc_11 : ah_10 r = some (.inr (6, [.ref a, .int (nI (n + 1))])) := by rw [eah_10]; exact hup_s
    have hc_12 := (show ah_10 a = _ from (by rw [eah_10]; exact hup_n (h_ne hc_6 hc_5 (by simp)))).trans hc_6
    rw [hQ]
    exact h_vret hx hb hr hlk hsz hw (by simp) (by simp [rwG]; try (split <;> omega)) dX6_add_50 ⟨rfl, a, cap, upd f n x, Or.inl ⟨rfl, rfl, by omega⟩, by omega, fun j hj => pk_un (by omega), pk_us, by subst_vars; rfl⟩
  · skip
    have c_1 : ¬ (n < cap) := (not_congr (nI_ltx (by rfl) (by rfl) (by omega) (by omega))).mp c_1
    refine lv_aload_n hx hb dX6_add_12 rfl (lv_at hl 0 rfl) ?_
    refine lv_aload_n hx hb dX6_add_13 rfl (lv_at hl 0 rfl) ?_
    refine h_get (ci := 6) (v := .ref a) (C := RX6) (T := TX6) (N := 2) hx hb hts kl_X6 hown hK hw her rfl 0 (by decide) (hts _ kf_X6_9) rfl rfl dX6_add_14 ?_
    refine lv_iconst (v := 2) hx hb dX6_add_17 (by decide) ?_
    refine lv_aload_n hx hb dX6_add_18 rfl (lv_at hl 0 rfl) ?_
    refine h_get (ci := 6) (v := .ref a) (C := RX6) (T := TX6) (N := 2) hx hb hts kl_X6 hown hK hw her rfl 0 (by decide) (hts _ kf_X6_9) rfl rfl dX6_add_19 ?_
    refine h_alen hx hb hK hw 0 rfl hea dX6_add_22 ?_
    refine lv_imul hx hb dX6_add_23 ?_
    refine lv_topi (fun t_13 et_13 => ?_)
    obtain rfl : t_13 = nI (2 * cap) := et_13.trans (nI_mul _ 2)
    refine h_callS (n := 2) (As := [.ref a, .int (nI (2 * cap))]) (rest := [.ref r]) ⟨hx, hb, hml, hown, hts⟩ hK hw (c_J7_copyOf_59c91 l D dT ah s.heap.size a cap (2 * cap) f (by omega) (by omega) hea) ko_J7_copyOf_59c91 km_X6_23 kt_J7_copyOf_59c91 kn_J7 (by decide +kernel) rfl hl.1 rfl (by simp [Value.category]) dX6_add_24 (by rw [hR]; exact ⟨rfl, rfl, Nat.le_of_ble_eq_true rfl, Nat.le_of_ble_eq_true rfl, by simp, by simp [rwG]; try (split <;> omega)⟩) (fun r_15 ah_16 H_17 L_18 st_19 hp hw hst => ?_)
    obtain ⟨q_14, rfl, hqq_14, eah_16⟩ := hp
    have hne_21 : r ≠ q_14 := h_fr her hqq_14
    have hc_20 := (show ah_16 r = _ from (by rw [eah_16]; exact hup_n (hne_21))).trans her
    have hne_23 : a ≠ q_14 := h_fr hea hqq_14
    have hc_22 := (show ah_16 a = _ from (by rw [eah_16]; exact hup_n (hne_23))).trans hea
    have hc_q_14 : ah_16 q_14 = some (.inl (dT 0, 2 * cap, .inl (va_cpy f (fun _ => 0) 0 0 cap))) := by rw [eah_16]; exact hup_s
    have hst : st_19 = [.ref q_14, .ref r] := hst
    subst hst
    refine h_put (ci := 6) (v := .ref q_14) (C := RX6) (T := TX6) (N := 2) hx hb hts kl_X6 tyX6 tyX6_ok nmX6 hown hK hw hc_20 rfl 0 (by decide) (hts _ kf_X6_9) rfl rfl (tyX6_ok 0 (by decide)) rfl rfl (Nat.le_of_ble_eq_true rfl) dX6_add_27 (fun H_24 L_25 hw => ?_)
    obtain ⟨ah_26, eah_26⟩ : ∃ z9 : hA, z9 = hup ah_16 r (.inr (6, [.ref q_14, .int (nI n)])) := ⟨_, rfl⟩
    have hw : hW D ah s.heap ah_26 H_24 L_25 := by rw [eah_26]; exact hw
    have hc_27 : ah_26 r = some (.inr (6, [.ref q_14, .int (nI n)])) := by rw [eah_26]; exact hup_s
    have hc_28 := (show ah_26 a = _ from (by rw [eah_26]; exact hup_n (h_ne hc_22 hc_20 (by simp)))).trans hc_22
    have hc_29 := (show ah_26 q_14 = _ from (by rw [eah_26]; exact hup_n (hne_21.symm))).trans hc_q_14
    refine lv_aload_n hx hb dX6_add_30 rfl (lv_at hl 0 rfl) ?_
    refine h_get (ci := 6) (v := .ref q_14) (C := RX6) (T := TX6) (N := 2) hx hb hts kl_X6 hown hK hw hc_27 rfl 0 (by decide) (hts _ kf_X6_9) rfl rfl dX6_add_31 ?_
    refine lv_aload_n hx hb dX6_add_34 rfl (lv_at hl 0 rfl) ?_
    refine h_get (ci := 6) (v := .int (nI n)) (C := RX6) (T := TX6) (N := 2) hx hb hts kl_X6 hown hK hw hc_27 rfl 1 (by decide) (hts _ kf_X6_15) rfl rfl dX6_add_35 ?_
    refine lv_iload_n hx hb dX6_add_38 rfl (lv_at hl 1 rfl) ?_
    refine h_iast hx hb hK hw hc_29 n rfl (by omega) (by omega) dX6_add_39 (fun H_30 L_31 hw => ?_)
    obtain ⟨ah_32, eah_32⟩ : ∃ z9 : hA, z9 = hup ah_26 q_14 (.inl (dT 0, 2 * cap, .inl (upd (va_cpy f (fun _ => 0) 0 0 cap) n x))) := ⟨_, rfl⟩
    have hw : hW D ah s.heap ah_32 H_30 L_31 := by rw [eah_32]; exact hw
    have hc_33 := (show ah_32 r = _ from (by rw [eah_32]; exact hup_n (hne_21))).trans hc_27
    have hc_34 := (show ah_32 a = _ from (by rw [eah_32]; exact hup_n (hne_23))).trans hc_28
    have hc_35 : ah_32 q_14 = some (.inl (dT 0, 2 * cap, .inl (upd (va_cpy f (fun _ => 0) 0 0 cap) n x))) := by rw [eah_32]; exact hup_s
    refine lv_aload_n hx hb dX6_add_40 rfl (lv_at hl 0 rfl) ?_
    refine lv_dup hx hb dX6_add_41 rfl ?_
    refine h_get (ci := 6) (v := .int (nI n)) (C := RX6) (T := TX6) (N := 2) hx hb hts kl_X6 hown hK hw hc_33 rfl 1 (by decide) (hts _ kf_X6_15) rfl rfl dX6_add_42 ?_
    refine lv_iconst (v := 1) hx hb dX6_add_45 (by decide) ?_
    refine lv_iadd hx hb dX6_add_46 ?_
    refine lv_topi (fun t_36 et_36 => ?_)
    obtain rfl : t_36 = nI (n + 1) := et_36.trans (nI_c _ 1)
    refine h_put (ci := 6) (v := .int (nI (n + 1))) (C := RX6) (T := TX6) (N := 2) hx hb hts kl_X6 tyX6 tyX6_ok nmX6 hown hK hw hc_33 rfl 1 (by decide) (hts _ kf_X6_15) rfl rfl (tyX6_ok 1 (by decide)) rfl rfl (Nat.le_of_ble_eq_true rfl) dX6_add_47 (fun H_37 L_38 hw => ?_)
    obtain ⟨ah_39, eah_39⟩ : ∃ z9 : hA, z9 = hup ah_32 r (.inr (6, [.ref q_14, .int (nI (n + 1))])) := ⟨_, rfl⟩
    have hw : hW D ah s.heap ah_39 H_37 L_38 := by rw [eah_39]; exact hw
    have hc_40 : ah_39 r = some (.inr (6, [.ref q_14, .int (nI (n + 1))])) := by rw [eah_39]; exact hup_s
    have hc_41 := (show ah_39 a = _ from (by rw [eah_39]; exact hup_n (h_ne hc_34 hc_33 (by simp)))).trans hc_34
    have hc_42 := (show ah_39 q_14 = _ from (by rw [eah_39]; exact hup_n (hne_21.symm))).trans hc_35
    rw [hQ]
    exact h_vret hx hb hr hlk hsz hw (by simp) (by simp [rwG]; try (split <;> omega)) dX6_add_50 ⟨rfl, q_14, 2 * cap, upd (va_cpy f (fun _ => 0) 0 0 cap) n x, Or.inr ⟨hqq_14, rfl, by omega⟩, by omega, fun j hj => (pk_un (by omega)).trans (sb_cpy0 (by omega)), pk_us, by subst_vars; funext z9; simp only [hup]; by_cases h1 : z9 = r <;> by_cases h2 : z9 = q_14 <;> simp [h1, h2]⟩

/-! ShapeJudge$Shapes: writes -/
/-- what a write among the shapes' cells leaves alone -/
def shR (ah ah2 : hA) (sh : Nat) (RO RA RA2 : Nat → Nat) : Prop :=
  (∀ a e, ah a = some e → a ≠ sh → (∀ k, k < 7 → a ≠ RO k ∧ a ≠ RA k) → ah2 a = some e) ∧ (∀ k, k < 7 → RA2 k = RA k ∨ ah (RA2 k) = none) ∧ ∀ a, ah2 a = none → ah a = none
theorem shR_t {ah ah1 ah2 : hA} {sh : Nat} {RO RA RA1 RA2 : Nat → Nat} (h1 : shR ah ah1 sh RO RA RA1) (h2 : shR ah1 ah2 sh RO RA1 RA2) : shR ah ah2 sh RO RA RA2 := by
  refine ⟨fun a e ha hsh hk => h2.1 a e (h1.1 a e ha hsh hk) hsh (fun k h7 => ⟨(hk k h7).1, ?_⟩), fun k h7 => ?_, fun a ha => h1.2.2 a (h2.2.2 a ha)⟩
  · rcases h1.2.1 k h7 with h | h
    · rw [h]; exact (hk k h7).2
    · exact h_fr ha h
  · rcases h2.2.1 k h7 with h | h
    · rw [h]; exact h1.2.1 k h7
    · exact Or.inr (h1.2.2 _ h)
def shD (v : Nat → Nat) (f f2 : Nat → Nat → Int32) : Prop := ∀ i j, i < 7 → j < v i → f2 i j = f i j
theorem shD_t {v v1 : Nat → Nat} {f f1 f2 : Nat → Nat → Int32} (h1 : shD v f f1) (h2 : shD v1 f1 f2) (hle : ∀ i, i < 7 → v i ≤ v1 i) : shD v f f2 := fun i j hi hj => (h2 i j hi (Nat.lt_of_lt_of_le hj (hle i hi))).trans (h1 i j hi hj)
theorem shA_v {dT : Nat → ClassId} {ah : hA} {sh rc : Nat} {RO RA cap v v' : Nat → Nat} {f : Nat → Nat → Int32} (hs : shA dT ah sh RO RA cap v f rc) (h : ∀ k, k < 7 → v k = v' k) : shA dT ah sh RO RA cap v' f rc :=
  ⟨hs.1, fun k hk => by rw [← h k hk]; exact hs.2.1 k hk, hs.2.2⟩
theorem shA_add {dT : Nat → ClassId} {ah ah2 : hA} {sh rc : Nat} {RO RA cap v : Nat → Nat} {f : Nat → Nat → Int32} (hs : shA dT ah sh RO RA cap v f rc) (k : Nat) (hk : k < 7) {a2 cap2 : Nat} {f2 : Nat → Int32} {x : Int32}
    (ha : a2 = RA k ∧ cap2 = cap k ∧ v k < cap k ∨ ah a2 = none ∧ cap2 = 2 * cap k ∧ v k = cap k) (hlt : v k < cap2) (ho : ∀ j, j < v k → f2 j = f k j) (hn : f2 (v k) = x) (hv : v k ≤ 20000)
    (e : ah2 = hup (hup ah a2 (.inl (dT 0, cap2, .inl f2))) (RO k) (.inr (6, [.ref a2, .int (nI (v k + 1))]))) :
    ∃ (RA2 : Nat → Nat) (f2' : Nat → Nat → Int32), shA dT ah2 sh RO RA2 (va_up cap k (cap k + rwG (v k) (cap k) / 2)) (va_up v k (v k + 1)) f2' rc ∧ shR ah ah2 sh RO RA RA2 ∧ shD v f f2' ∧ f2' k (v k) = x := by
  obtain ⟨h1, h2, h3, h4⟩ := hs
  obtain ⟨r1, r2, r3, r4, r5⟩ := h2 k hk
  have n1 : ∀ b e, ah b = some e → b ≠ RA k → b ≠ a2 := by
    rcases ha with ⟨hA, -⟩ | ⟨hf, -⟩
    · intro b e _ h; rw [hA]; exact h
    · intro b e hb _; exact h_fr hb hf
  have n2 : a2 ≠ RO k := by
    rcases ha with ⟨hA, -⟩ | ⟨hf, -⟩
    · rw [hA]; exact h_ne r2 r1 (by simp)
    · exact (h_fr r1 hf).symm
  have look : ∀ b e9, ah b = some e9 → b ≠ RA k → b ≠ RO k → ah2 b = some e9 := fun b e9 hb q1 q2 => by rw [e, hup_n q2, hup_n (n1 b e9 hb q1)]; exact hb
  have hc2 : cap2 = cap k + rwG (v k) (cap k) / 2 := by
    unfold rwG
    rcases ha with ⟨-, h, h'⟩ | ⟨-, h, h'⟩
    · rw [if_pos h', h]; omega
    · rw [if_neg (by omega), h]; omega
  rw [← hc2]
  refine ⟨va_up RA k a2, va_up f k f2, ⟨look sh _ h1 (h_ne h1 r2 (by simp)) (h_ne h1 r1 (by simp)), fun i hi => ?_, h3, fun i j hi hj hij => ?_⟩, ⟨fun b e9 hb _ hk' => look b e9 hb (hk' k hk).2 (hk' k hk).1, fun i hi => ?_, fun b hb => ?_⟩, fun i j hi hj => ?_, ?_⟩
  · by_cases hik : i = k
    · subst hik
      simp only [va_up, if_true]
      refine ⟨by rw [e, hup_s], by rw [e, hup_n n2, hup_s], by omega, by omega, by omega⟩
    · simp only [va_up, if_neg hik]
      obtain ⟨q1, q2, q3⟩ := h2 i hi
      exact ⟨look _ _ q1 (h_ne q1 r2 (by simp)) (fun h => hik (h3 i k hi hk h)), look _ _ q2 (fun h => hik (h4 i k hi hk h)) (h_ne q2 r1 (by simp)), q3⟩
  · by_cases hik : i = k
    · by_cases hjk : j = k
      · rw [hik, hjk]
      · rw [hik] at hij
        simp only [va_up, if_true, if_neg hjk] at hij
        exact absurd hij.symm (n1 _ _ (h2 j hj).2.1 (fun h => hjk (h4 j k hj hk h)))
    · by_cases hjk : j = k
      · rw [hjk] at hij
        simp only [va_up, if_true, if_neg hik] at hij
        exact absurd hij (n1 _ _ (h2 i hi).2.1 (fun h => hik (h4 i k hi hk h)))
      · simp only [va_up, if_neg hik, if_neg hjk] at hij
        exact h4 i j hi hj hij
  · by_cases hik : i = k
    · subst hik
      simp only [va_up, if_true]
      rcases ha with ⟨h, -⟩ | ⟨h, -⟩
      · exact Or.inl h
      · exact Or.inr h
    · exact Or.inl (by simp [va_up, hik])
  · cases hb' : ah b with
    | none => rfl
    | some e9 =>
      exfalso
      rw [e] at hb
      by_cases q2 : b = RO k
      · rw [q2, hup_s] at hb; cases hb
      · rw [hup_n q2] at hb
        by_cases q3 : b = a2
        · rw [q3, hup_s] at hb; cases hb
        · rw [hup_n q3, hb'] at hb; cases hb
  · by_cases hik : i = k
    · subst hik; simp only [va_up, if_true]; exact ho j hj
    · simp only [va_up, if_neg hik]
  · simp only [va_up, if_true]; exact hn
theorem shA_cut {dT : Nat → ClassId} {ah ah2 : hA} {sh rc : Nat} {RO RA cap v : Nat → Nat} {f : Nat → Nat → Int32} (hs : shA dT ah sh RO RA cap v f rc) (k : Nat) (hk : k < 7) {m : Nat} (hm : m ≤ v k) (e : ah2 = hup ah (RO k) (.inr (6, [.ref (RA k), .int (nI m)]))) :
    shA dT ah2 sh RO RA cap (va_up v k m) f rc ∧ shR ah ah2 sh RO RA RA := by
  obtain ⟨h1, h2, h3, h4⟩ := hs
  obtain ⟨r1, r2, r3, r4, r5⟩ := h2 k hk
  have look : ∀ b e9, ah b = some e9 → b ≠ RO k → ah2 b = some e9 := fun b e9 hb q2 => by rw [e, hup_n q2]; exact hb
  refine ⟨⟨look sh _ h1 (h_ne h1 r1 (by simp)), fun i hi => ?_, h3, h4⟩, fun b e9 hb _ hk' => look b e9 hb (hk' k hk).1, fun i _ => Or.inl rfl, fun b hb => ?_⟩
  · by_cases hik : i = k
    · subst hik
      simp only [va_up, if_true]
      exact ⟨by rw [e, hup_s], look _ _ r2 (h_ne r2 r1 (by simp)), by omega, r4, r5⟩
    · simp only [va_up, if_neg hik]
      obtain ⟨q1, q2, q3⟩ := h2 i hi
      exact ⟨look _ _ q1 (fun h => hik (h3 i k hi hk h)), look _ _ q2 (h_ne q2 r1 (by simp)), q3⟩
  · cases hb' : ah b with
    | none => rfl
    | some e9 =>
      exfalso
      rw [e] at hb
      by_cases q2 : b = RO k
      · rw [q2, hup_s] at hb; cases hb
      · rw [hup_n q2, hb'] at hb; cases hb
set_option maxHeartbeats 4000000 in
set_option maxRecDepth 100000 in
theorem c_X8_addPoint (l : Launch) (D : va_G) (dT : Nat → ClassId) (ah : hA) (sz : Nat) (sh : Nat) (RO RA cap : Nat → Nat) (ns nc np no rc : Nat) (f : Nat → Nat → Int32) (hs : shA dT ah sh RO RA cap (v7 ns ns ns nc np np no) f rc) (hnp : np ≤ 20000) (x y : Int32) : hMet l yX8_addPoint cX8_addPoint 3 (some .int) ({ frames := 4, cells := 2, slots := (rwG np (cap 4) + rwG np (cap 5)), locals := 103 }) D dT [.ref sh, .int x, .int y] ah sz (fun r ah2 => r = some (.int (nI (np + 1))) ∧ ∃ (RA2 : Nat → Nat) (f2 : Nat → Nat → Int32), shA dT ah2 sh RO RA2 (va_up (va_up cap 4 (cap 4 + rwG np (cap 4) / 2)) 5 (cap 5 + rwG np (cap 5) / 2)) (v7 ns ns ns nc (np + 1) (np + 1) no) f2 rc ∧ shR ah ah2 sh RO RA RA2 ∧ shD (v7 ns ns ns nc np np no) f f2 ∧ f2 4 np = x ∧ f2 5 np = y) 2 (rwG np (cap 4) + rwG np (cap 5)) := by
  refine h_met (by decide) (Nat.le_of_ble_eq_true rfl) ?_
  intro p e s m below meth c ls R Q args hav hR hQ hB hl hsz hw
  obtain ⟨hx, hb, hml, hr, hts, hown, hlk, hin, hK⟩ := hB
  have hown : s.vm.findClass RX8 = some m.cls := hown
  have hl : lv_has ls 3 [(0, .ref sh), (1, .int x), (2, .int y)] := hl
  have hb0 : ns ≤ cap 0 ∧ 32 ≤ cap 0 ∧ cap 0 ≤ 40000 := (hs.2.1 0 (by omega)).2.2
  have hb1 : ns ≤ cap 1 ∧ 32 ≤ cap 1 ∧ cap 1 ≤ 40000 := (hs.2.1 1 (by omega)).2.2
  have hb2 : ns ≤ cap 2 ∧ 32 ≤ cap 2 ∧ cap 2 ≤ 40000 := (hs.2.1 2 (by omega)).2.2
  have hb3 : nc ≤ cap 3 ∧ 32 ≤ cap 3 ∧ cap 3 ≤ 40000 := (hs.2.1 3 (by omega)).2.2
  have hb4 : np ≤ cap 4 ∧ 32 ≤ cap 4 ∧ cap 4 ≤ 40000 := (hs.2.1 4 (by omega)).2.2
  have hb5 : np ≤ cap 5 ∧ 32 ≤ cap 5 ∧ cap 5 ≤ 40000 := (hs.2.1 5 (by omega)).2.2
  have hb6 : no ≤ cap 6 ∧ 32 ≤ cap 6 ∧ cap 6 ≤ 40000 := (hs.2.1 6 (by omega)).2.2
  refine lv_aload_n hx hb dX8_addPoint_0 rfl (lv_at hl 0 rfl) ?_
  refine h_get (ci := 8) (v := .ref (RO 4)) (C := RX8) (T := TX8) (N := 8) hx hb hts kl_X8 hown hK hw hs.1 rfl 4 (by decide) (hts _ kf_X8_27) rfl rfl dX8_addPoint_1 ?_
  refine lv_iload_n hx hb dX8_addPoint_4 rfl (lv_at hl 1 rfl) ?_
  refine h_callV (n := 1) (ci := 6) (b := (RO 4)) (As := [.int x]) (rest := []) ⟨hx, hb, hml, hown, hts⟩ hK hw (c_X6_add l D dT ah s.heap.size (RO 4) (RA 4) (cap 4) np (f 4) (by omega) (by omega) (by omega) (hs.2.1 4 (by omega)).1 (hs.2.1 4 (by omega)).2.1 x) ko_X6_add km_X8_57 ki_X6_add ks_X6_add kn_X6 (by decide +kernel) rfl (hs.2.1 4 (by omega)).1 rfl hl.1 rfl (by simp [Value.category]) dX8_addPoint_5 (by rw [hR]; exact ⟨rfl, rfl, Nat.le_of_ble_eq_true rfl, Nat.le_of_ble_eq_true rfl, by simp, by simp; try omega⟩) (fun r_2 ah_3 H_4 L_5 st_6 hp hw hst => ?_)
  obtain ⟨rfl, a2_1, c2_1, g2_1, ha_1, hl_1, ho_1, hn_1, eah_3⟩ := hp
  obtain ⟨RA_1, f_1, hs_1, hr_1, hd_1, hx_1⟩ := shA_add hs 4 (by omega) ha_1 hl_1 ho_1 hn_1 (by show np ≤ 20000; omega) eah_3
  have hs_1 : shA dT ah_3 sh RO RA_1 (va_up cap 4 (cap 4 + rwG np (cap 4) / 2)) (v7 ns ns ns nc (np + 1) np no) f_1 rc := shA_v hs_1 (by intro k9 hk9; rcases (show k9 = 0 ∨ k9 = 1 ∨ k9 = 2 ∨ k9 = 3 ∨ k9 = 4 ∨ k9 = 5 ∨ k9 = 6 by omega) with rfl | rfl | rfl | rfl | rfl | rfl | rfl <;> rfl)
  have hb_10 : ns ≤ cap 0 ∧ 32 ≤ cap 0 ∧ cap 0 ≤ 40000 := (hs_1.2.1 0 (by omega)).2.2
  have hb_11 : ns ≤ cap 1 ∧ 32 ≤ cap 1 ∧ cap 1 ≤ 40000 := (hs_1.2.1 1 (by omega)).2.2
  have hb_12 : ns ≤ cap 2 ∧ 32 ≤ cap 2 ∧ cap 2 ≤ 40000 := (hs_1.2.1 2 (by omega)).2.2
  have hb_13 : nc ≤ cap 3 ∧ 32 ≤ cap 3 ∧ cap 3 ≤ 40000 := (hs_1.2.1 3 (by omega)).2.2
  have hb_14 : np + 1 ≤ cap 4 + rwG np (cap 4) / 2 ∧ 32 ≤ cap 4 + rwG np (cap 4) / 2 ∧ cap 4 + rwG np (cap 4) / 2 ≤ 40000 := (hs_1.2.1 4 (by omega)).2.2
  have hb_15 : np ≤ cap 5 ∧ 32 ≤ cap 5 ∧ cap 5 ≤ 40000 := (hs_1.2.1 5 (by omega)).2.2
  have hb_16 : no ≤ cap 6 ∧ 32 ≤ cap 6 ∧ cap 6 ≤ 40000 := (hs_1.2.1 6 (by omega)).2.2
  have hst : st_6 = [] := hst
  subst hst
  refine lv_aload_n hx hb dX8_addPoint_8 rfl (lv_at hl 0 rfl) ?_
  refine h_get (ci := 8) (v := .ref (RO 5)) (C := RX8) (T := TX8) (N := 8) hx hb hts kl_X8 hown hK hw hs_1.1 rfl 5 (by decide) (hts _ kf_X8_30) rfl rfl dX8_addPoint_9 ?_
  refine lv_iload_n hx hb dX8_addPoint_12 rfl (lv_at hl 2 rfl) ?_
  refine h_callV (n := 1) (ci := 6) (b := (RO 5)) (As := [.int y]) (rest := []) ⟨hx, hb, hml, hown, hts⟩ hK hw (c_X6_add l D dT ah_3 H_4.size (RO 5) (RA_1 5) (cap 5) np (f_1 5) (by omega) (by omega) (by omega) (hs_1.2.1 5 (by omega)).1 (hs_1.2.1 5 (by omega)).2.1 y) ko_X6_add km_X8_57 ki_X6_add ks_X6_add kn_X6 (by decide +kernel) rfl (hs_1.2.1 5 (by omega)).1 rfl hl.1 rfl (by simp [Value.category]) dX8_addPoint_13 (by rw [hR]; exact ⟨rfl, rfl, Nat.le_of_ble_eq_true rfl, Nat.le_of_ble_eq_true rfl, by simp, by simp; try omega⟩) (fun r_8 ah_9 H_10 L_11 st_12 hp hw hst => ?_)
  obtain ⟨rfl, a2_7, c2_7, g2_7, ha_7, hl_7, ho_7, hn_7, eah_9⟩ := hp
  obtain ⟨RA_7, f_7, hs_7, hr_7, hd_7, hx_7⟩ := shA_add hs_1 5 (by omega) ha_7 hl_7 ho_7 hn_7 (by show np ≤ 20000; omega) eah_9
  have hs_7 : shA dT ah_9 sh RO RA_7 (va_up (va_up cap 4 (cap 4 + rwG np (cap 4) / 2)) 5 (cap 5 + rwG np (cap 5) / 2)) (v7 ns ns ns nc (np + 1) (np + 1) no) f_7 rc := shA_v hs_7 (by intro k9 hk9; rcases (show k9 = 0 ∨ k9 = 1 ∨ k9 = 2 ∨ k9 = 3 ∨ k9 = 4 ∨ k9 = 5 ∨ k9 = 6 by omega) with rfl | rfl | rfl | rfl | rfl | rfl | rfl <;> rfl)
  have hb_70 : ns ≤ cap 0 ∧ 32 ≤ cap 0 ∧ cap 0 ≤ 40000 := (hs_7.2.1 0 (by omega)).2.2
  have hb_71 : ns ≤ cap 1 ∧ 32 ≤ cap 1 ∧ cap 1 ≤ 40000 := (hs_7.2.1 1 (by omega)).2.2
  have hb_72 : ns ≤ cap 2 ∧ 32 ≤ cap 2 ∧ cap 2 ≤ 40000 := (hs_7.2.1 2 (by omega)).2.2
  have hb_73 : nc ≤ cap 3 ∧ 32 ≤ cap 3 ∧ cap 3 ≤ 40000 := (hs_7.2.1 3 (by omega)).2.2
  have hb_74 : np + 1 ≤ cap 4 + rwG np (cap 4) / 2 ∧ 32 ≤ cap 4 + rwG np (cap 4) / 2 ∧ cap 4 + rwG np (cap 4) / 2 ≤ 40000 := (hs_7.2.1 4 (by omega)).2.2
  have hb_75 : np + 1 ≤ cap 5 + rwG np (cap 5) / 2 ∧ 32 ≤ cap 5 + rwG np (cap 5) / 2 ∧ cap 5 + rwG np (cap 5) / 2 ≤ 40000 := (hs_7.2.1 5 (by omega)).2.2
  have hb_76 : no ≤ cap 6 ∧ 32 ≤ cap 6 ∧ cap 6 ≤ 40000 := (hs_7.2.1 6 (by omega)).2.2
  have hst : st_12 = [] := hst
  subst hst
  refine lv_aload_n hx hb dX8_addPoint_16 rfl (lv_at hl 0 rfl) ?_
  refine h_get (ci := 8) (v := .ref (RO 4)) (C := RX8) (T := TX8) (N := 8) hx hb hts kl_X8 hown hK hw hs_7.1 rfl 4 (by decide) (hts _ kf_X8_27) rfl rfl dX8_addPoint_17 ?_
  refine h_callV (n := 0) (ci := 6) (b := (RO 4)) (As := []) (rest := []) ⟨hx, hb, hml, hown, hts⟩ hK hw (c_X6_size l D dT ah_9 H_10.size (RO 4) (RA_7 4) (cap 4 + rwG np (cap 4) / 2) (np + 1) (f_7 4) (by omega) (by omega) (hs_7.2.1 4 (by omega)).1 (hs_7.2.1 4 (by omega)).2.1) ko_X6_size km_X8_43 ki_X6_size ks_X6_size kn_X6 (by decide +kernel) rfl (hs_7.2.1 4 (by omega)).1 rfl hl.1 rfl (by simp [Value.category]) dX8_addPoint_20 (by rw [hR]; exact ⟨rfl, rfl, Nat.le_of_ble_eq_true rfl, Nat.le_of_ble_eq_true rfl, by simp, by simp⟩) (fun r_13 ah_14 H_15 L_16 st_17 hp hw hst => ?_)
  obtain ⟨rfl, rfl⟩ := hp
  have hst : st_17 = [.int (nI (np + 1))] := hst
  subst hst
  rw [hQ]
  exact h_iret hx hb hr hlk hsz hw (by simp) (by simp) dX8_addPoint_23 ⟨rfl, _, _, hs_7, (shR_t hr_1 hr_7), (shD_t hd_1 hd_7 (by intro k9 hk9; rcases (show k9 = 0 ∨ k9 = 1 ∨ k9 = 2 ∨ k9 = 3 ∨ k9 = 4 ∨ k9 = 5 ∨ k9 = 6 by omega) with rfl | rfl | rfl | rfl | rfl | rfl | rfl <;> simp [v7])), ((hd_7 4 _ (by omega) (by simp [v7])).trans hx_1), hx_7⟩

set_option maxHeartbeats 4000000 in
set_option maxRecDepth 100000 in
theorem c_X8_finish (l : Launch) (D : va_G) (dT : Nat → ClassId) (ah : hA) (sz : Nat) (sh : Nat) (RO RA cap : Nat → Nat) (ns nc np no rc : Nat) (f : Nat → Nat → Int32) (hs : shA dT ah sh RO RA cap (v7 ns ns ns nc np np no) f rc) : hMet l yX8_finish cX8_finish 1 (some .int) ({ frames := 1, cells := 0, slots := 0, locals := 20 }) D dT [.ref sh] ah sz (fun r ah2 => r = some (.int (nI (no - 1))) ∧ shA dT ah2 sh RO RA cap (v7 ns ns ns nc np np (no - 1)) f rc ∧ shR ah ah2 sh RO RA RA) 0 0 := by
  refine h_met (by decide) (Nat.le_of_ble_eq_true rfl) ?_
  intro p e s m below meth c ls R Q args hav hR hQ hB hl hsz hw
  obtain ⟨hx, hb, hml, hr, hts, hown, hlk, hin, hK⟩ := hB
  have hown : s.vm.findClass RX8 = some m.cls := hown
  have hl : lv_has ls 1 [(0, .ref sh)] := hl
  have hb0 : ns ≤ cap 0 ∧ 32 ≤ cap 0 ∧ cap 0 ≤ 40000 := (hs.2.1 0 (by omega)).2.2
  have hb1 : ns ≤ cap 1 ∧ 32 ≤ cap 1 ∧ cap 1 ≤ 40000 := (hs.2.1 1 (by omega)).2.2
  have hb2 : ns ≤ cap 2 ∧ 32 ≤ cap 2 ∧ cap 2 ≤ 40000 := (hs.2.1 2 (by omega)).2.2
  have hb3 : nc ≤ cap 3 ∧ 32 ≤ cap 3 ∧ cap 3 ≤ 40000 := (hs.2.1 3 (by omega)).2.2
  have hb4 : np ≤ cap 4 ∧ 32 ≤ cap 4 ∧ cap 4 ≤ 40000 := (hs.2.1 4 (by omega)).2.2
  have hb5 : np ≤ cap 5 ∧ 32 ≤ cap 5 ∧ cap 5 ≤ 40000 := (hs.2.1 5 (by omega)).2.2
  have hb6 : no ≤ cap 6 ∧ 32 ≤ cap 6 ∧ cap 6 ≤ 40000 := (hs.2.1 6 (by omega)).2.2
  refine lv_aload_n hx hb dX8_finish_0 rfl (lv_at hl 0 rfl) ?_
  refine h_get (ci := 8) (v := .ref (RO 6)) (C := RX8) (T := TX8) (N := 8) hx hb hts kl_X8 hown hK hw hs.1 rfl 6 (by decide) (hts _ kf_X8_33) rfl rfl dX8_finish_1 ?_
  refine h_callV (n := 0) (ci := 6) (b := (RO 6)) (As := []) (rest := []) ⟨hx, hb, hml, hown, hts⟩ hK hw (c_X6_dropLast l D dT ah s.heap.size (RO 6) (RA 6) (cap 6) no (f 6) (by omega) (by omega) (hs.2.1 6 (by omega)).1 (hs.2.1 6 (by omega)).2.1) ko_X6_dropLast km_X8_61 ki_X6_dropLast ks_X6_dropLast kn_X6 (by decide +kernel) rfl (hs.2.1 6 (by omega)).1 rfl hl.1 rfl (by simp [Value.category]) dX8_finish_4 (by rw [hR]; exact ⟨rfl, rfl, Nat.le_of_ble_eq_true rfl, Nat.le_of_ble_eq_true rfl, by simp, by simp⟩) (fun r_2 ah_3 H_4 L_5 st_6 hp hw hst => ?_)
  obtain ⟨rfl, eah_3⟩ := hp
  obtain ⟨hs_1, hr_1⟩ := shA_cut hs 6 (by omega) (m := (no - 1)) (by show no - 1 ≤ no; omega) eah_3
  have hs_1 : shA dT ah_3 sh RO RA cap (v7 ns ns ns nc np np (no - 1)) f rc := shA_v hs_1 (by intro k9 hk9; rcases (show k9 = 0 ∨ k9 = 1 ∨ k9 = 2 ∨ k9 = 3 ∨ k9 = 4 ∨ k9 = 5 ∨ k9 = 6 by omega) with rfl | rfl | rfl | rfl | rfl | rfl | rfl <;> rfl)
  have hst : st_6 = [] := hst
  subst hst
  refine lv_aload_n hx hb dX8_finish_7 rfl (lv_at hl 0 rfl) ?_
  refine h_get (ci := 8) (v := .ref (RO 6)) (C := RX8) (T := TX8) (N := 8) hx hb hts kl_X8 hown hK hw hs_1.1 rfl 6 (by decide) (hts _ kf_X8_33) rfl rfl dX8_finish_8 ?_
  refine h_callV (n := 0) (ci := 6) (b := (RO 6)) (As := []) (rest := []) ⟨hx, hb, hml, hown, hts⟩ hK hw (c_X6_size l D dT ah_3 H_4.size (RO 6) (RA 6) (cap 6) (no - 1) (f 6) (by omega) (by omega) (hs_1.2.1 6 (by omega)).1 (hs_1.2.1 6 (by omega)).2.1) ko_X6_size km_X8_43 ki_X6_size ks_X6_size kn_X6 (by decide +kernel) rfl (hs_1.2.1 6 (by omega)).1 rfl hl.1 rfl (by simp [Value.category]) dX8_finish_11 (by rw [hR]; exact ⟨rfl, rfl, Nat.le_of_ble_eq_true rfl, Nat.le_of_ble_eq_true rfl, by simp, by simp⟩) (fun r_7 ah_8 H_9 L_10 st_11 hp hw hst => ?_)
  obtain ⟨rfl, rfl⟩ := hp
  have hst : st_11 = [.int (nI (no - 1))] := hst
  subst hst
  rw [hQ]
  exact h_iret hx hb hr hlk hsz hw (by simp) (by simp) dX8_finish_14 ⟨rfl, hs_1, hr_1⟩

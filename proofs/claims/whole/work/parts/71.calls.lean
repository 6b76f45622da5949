/-! The law's calls of the class, with what they catch -/
set_option maxHeartbeats 4000000 in
set_option maxRecDepth 100000 in
theorem c_L_open (l : Launch) (D : va_G) (dT : Nat → ClassId) (ah : hA) (sz : Nat) (sj out : Nat) (fs : List Value) (he : ah sj = some (.inr (9, fs))) (fL : Nat → Int64) (x : Int32) (F9 L9 mc ms : Nat) (post : Option Value → hA → Prop) (px : String → Prop) (hM : hMetX l yX9_open cX9_open 2 (some .int) ({ frames := F9, cells := mc, slots := ms, locals := L9 }) D dT (.ref sj :: [.int x]) ah sz post px mc ms) (hpo : ∀ r ah1, post r ah1 → ∃ v, r = some (.int v) ∧ ah1 out = some (.inl (dT 1, 1, .inr (.inl fL)))) (hpx : ∀ E, px E → E = "java/lang/IllegalArgumentException" ∨ E = "java/lang/IllegalStateException" ∨ E = "java/lang/UnsupportedOperationException") : hMetH l yL_open cL_open 4 (some .int) hh_open ({ frames := F9 + 1, cells := mc, slots := ms, locals := L9 + 21 }) D dT [.ref sj, .int x, .ref out] ah sz (fun r ah2 => (∃ v ah1, post (some (.int v)) ah1 ∧ r = some (.int 0) ∧ ah2 = hup ah1 out (.inl (dT 1, 1, .inr (.inl (vp_updL fL 0 v.toInt64))))) ∨ (px "java/lang/IllegalArgumentException" ∧ r = some (.int 1) ∧ ah = ah2) ∨ (px "java/lang/IllegalStateException" ∧ r = some (.int 2) ∧ ah = ah2) ∨ (px "java/lang/UnsupportedOperationException" ∧ r = some (.int 3) ∧ ah = ah2)) mc ms := by
  refine h_metH (by decide) (Nat.le_of_ble_eq_true rfl) ?_
  intro p e s m below meth c ls R Q args hav hR hQ hB hl hsz hw hX9 hY9 hET
  obtain ⟨hx, hb, hml, hr, hts, hown, hlk, hin, hK⟩ := hB
  have hown : s.vm.findClass RL = some m.cls := hown
  have hl : lv_has ls 4 [(0, .ref sj), (1, .int x), (2, .ref out)] := hl
  subst hsz
  refine lv_aload_n hx hb dL_open_0 rfl (lv_at hl 2 rfl) ?_
  refine lv_iconst (v := 0) hx hb dL_open_1 (by decide) ?_
  refine lv_aload_n hx hb dL_open_2 rfl (lv_at hl 0 rfl) ?_
  refine lv_iload_n hx hb dL_open_3 rfl (lv_at hl 1 rfl) ?_
  refine h_callXV (n := 1) (ci := 9) (b := sj) (As := [.int x]) (rest := [.int 0, .ref out]) ⟨hx, hb, hml, hown, hts⟩ hK hX9 hw hM ko_X9_open km_L_7 ki_X9_open ks_X9_open kn_X9 (by decide +kernel) rfl he rfl hl.1 rfl (by simp [Value.category]) dL_open_4 (by rw [hR]; exact ⟨rfl, rfl, Nat.le_refl _, by show 8 + (2 + 11) + L9 ≤ L9 + 21; omega, by show 0 + mc ≤ mc; omega, by show 0 + ms ≤ ms; omega⟩) (fun E ce q9 H1 L1 hpx9 hw hcell hcv hcl => ?_) (fun r ah1 H1 L1 st1 hp hw hst => ?_)
  · rcases hpx E hpx9 with rfl | rfl | rfl
    · refine vx_catch hown [] ⟨0, 9, 12, 13⟩ [⟨0, 9, 15, 15⟩, ⟨0, 9, 18, 17⟩] hET (fun z hz => absurd hz List.not_mem_nil) (by decide) (by decide) (hts _ kc_L_13) (hY9.cs (List.mem_of_getElem? (i := 0) rfl)) hcell hcv hcl ?_
      refine lv_astore_n (lv' := [(3, .ref q9), (0, .ref sj), (1, .int x), (2, .ref out)]) hx hb dL_open_12 rfl hl (by decide) rfl (fun ls hl => ?_)
      refine lv_iconst (v := 1) hx hb dL_open_13 (by decide) ?_
      rw [hQ]; exact h_iret hx hb hr hlk rfl hw (by simp) (by simp) dL_open_14 (Or.inr (Or.inl ⟨hpx9, rfl, rfl⟩))
    · refine vx_catch hown [⟨0, 9, 12, 13⟩] ⟨0, 9, 15, 15⟩ [⟨0, 9, 18, 17⟩] hET (fun z hz => by rw [List.mem_singleton.mp hz]; exact Or.inr ⟨by decide, _, hts _ kc_L_13, hY9.2.1⟩) (by decide) (by decide) (hts _ kc_L_15) (hY9.cs (List.mem_of_getElem? (i := 1) rfl)) hcell hcv hcl ?_
      refine lv_astore_n (lv' := [(3, .ref q9), (0, .ref sj), (1, .int x), (2, .ref out)]) hx hb dL_open_15 rfl hl (by decide) rfl (fun ls hl => ?_)
      refine lv_iconst (v := 2) hx hb dL_open_16 (by decide) ?_
      rw [hQ]; exact h_iret hx hb hr hlk rfl hw (by simp) (by simp) dL_open_17 (Or.inr (Or.inr (Or.inl ⟨hpx9, rfl, rfl⟩)))
    · refine vx_catch hown [⟨0, 9, 12, 13⟩, ⟨0, 9, 15, 15⟩] ⟨0, 9, 18, 17⟩ [] hET (fun z hz => by rcases List.mem_cons.mp hz with hz | hz; (rw [hz]; exact Or.inr ⟨by decide, _, hts _ kc_L_13, hY9.2.2.1⟩); (rw [List.mem_singleton.mp hz]; exact Or.inr ⟨by decide, _, hts _ kc_L_15, hY9.2.2.2⟩)) (by decide) (by decide) (hts _ kc_L_17) (hY9.cs (List.mem_of_getElem? (i := 2) rfl)) hcell hcv hcl ?_
      refine lv_astore_n (lv' := [(3, .ref q9), (0, .ref sj), (1, .int x), (2, .ref out)]) hx hb dL_open_18 rfl hl (by decide) rfl (fun ls hl => ?_)
      refine lv_iconst (v := 3) hx hb dL_open_19 (by decide) ?_
      rw [hQ]; exact h_iret hx hb hr hlk rfl hw (by simp) (by simp) dL_open_20 (Or.inr (Or.inr (Or.inr (⟨hpx9, rfl, rfl⟩))))
  · obtain ⟨v, rfl, ho⟩ := hpo r ah1 hp
    have hst : st1 = [.int v, .int 0, .ref out] := hst
    subst hst
    refine lv_i2l (v := v.toInt64) hx hb dL_open_7 rfl ?_
    refine h_last hx hb hK hw ho 0 (by decide) (by omega) (by omega) dL_open_8 (fun H2 L2 hw => ?_)
    refine lv_goto (tgt := 21) hx hb dL_open_9 (by decide) ?_
    refine lv_iconst (v := 0) hx hb dL_open_21 (by decide) ?_
    rw [hQ]; exact h_iret hx hb hr hlk rfl hw (by simp) (by simp) dL_open_22 (Or.inl ⟨v, ah1, hp, rfl, rfl⟩)
set_option maxHeartbeats 4000000 in
set_option maxRecDepth 100000 in
theorem c_L_ring (l : Launch) (D : va_G) (dT : Nat → ClassId) (ah : hA) (sz : Nat) (sj : Nat) (fs : List Value) (he : ah sj = some (.inr (9, fs)))  (F9 L9 mc ms : Nat) (post : Option Value → hA → Prop) (px : String → Prop) (hM : hMetX l yX9_ring cX9_ring 1 none ({ frames := F9, cells := mc, slots := ms, locals := L9 }) D dT (.ref sj :: []) ah sz post px mc ms) (hpo : ∀ r ah1, post r ah1 → r = none) (hpx : ∀ E, px E → E = "java/lang/IllegalStateException" ∨ E = "java/lang/UnsupportedOperationException") : hMetH l yL_ring cL_ring 2 (some .int) hh_ring ({ frames := F9 + 1, cells := mc, slots := ms, locals := L9 + 20 }) D dT [.ref sj] ah sz (fun r ah2 => (post none ah2 ∧ r = some (.int 0)) ∨ (px "java/lang/IllegalStateException" ∧ r = some (.int 1) ∧ ah = ah2) ∨ (px "java/lang/UnsupportedOperationException" ∧ r = some (.int 2) ∧ ah = ah2)) mc ms := by
  refine h_metH (by decide) (Nat.le_of_ble_eq_true rfl) ?_
  intro p e s m below meth c ls R Q args hav hR hQ hB hl hsz hw hX9 hY9 hET
  obtain ⟨hx, hb, hml, hr, hts, hown, hlk, hin, hK⟩ := hB
  have hown : s.vm.findClass RL = some m.cls := hown
  have hl : lv_has ls 2 [(0, .ref sj)] := hl
  subst hsz
  refine lv_aload_n hx hb dL_ring_0 rfl (lv_at hl 0 rfl) ?_
  refine h_callXV (n := 0) (ci := 9) (b := sj) (As := []) (rest := []) ⟨hx, hb, hml, hown, hts⟩ hK hX9 hw hM ko_X9_ring km_L_19 ki_X9_ring ks_X9_ring kn_X9 (by decide +kernel) rfl he rfl hl.1 rfl (by simp [Value.category]) dL_ring_1 (by rw [hR]; exact ⟨rfl, rfl, Nat.le_refl _, by show 8 + (1 + 11) + L9 ≤ L9 + 20; omega, by show 0 + mc ≤ mc; omega, by show 0 + ms ≤ ms; omega⟩) (fun E ce q9 H1 L1 hpx9 hw hcell hcv hcl => ?_) (fun r ah1 H1 L1 st1 hp hw hst => ?_)
  · rcases hpx E hpx9 with rfl | rfl
    · refine vx_catch hown [] ⟨0, 4, 7, 15⟩ [⟨0, 4, 10, 17⟩] hET (fun z hz => absurd hz List.not_mem_nil) (by decide) (by decide) (hts _ kc_L_15) (hY9.cs (List.mem_of_getElem? (i := 1) rfl)) hcell hcv hcl ?_
      refine lv_astore_n (lv' := [(1, .ref q9), (0, .ref sj)]) hx hb dL_ring_7 rfl hl (by decide) rfl (fun ls hl => ?_)
      refine lv_iconst (v := 1) hx hb dL_ring_8 (by decide) ?_
      rw [hQ]; exact h_iret hx hb hr hlk rfl hw (by simp) (by simp) dL_ring_9 (Or.inr (Or.inl ⟨hpx9, rfl, rfl⟩))
    · refine vx_catch hown [⟨0, 4, 7, 15⟩] ⟨0, 4, 10, 17⟩ [] hET (fun z hz => by rw [List.mem_singleton.mp hz]; exact Or.inr ⟨by decide, _, hts _ kc_L_15, hY9.2.2.2⟩) (by decide) (by decide) (hts _ kc_L_17) (hY9.cs (List.mem_of_getElem? (i := 2) rfl)) hcell hcv hcl ?_
      refine lv_astore_n (lv' := [(1, .ref q9), (0, .ref sj)]) hx hb dL_ring_10 rfl hl (by decide) rfl (fun ls hl => ?_)
      refine lv_iconst (v := 2) hx hb dL_ring_11 (by decide) ?_
      rw [hQ]; exact h_iret hx hb hr hlk rfl hw (by simp) (by simp) dL_ring_12 (Or.inr (Or.inr (⟨hpx9, rfl, rfl⟩)))
  · obtain rfl := hpo r ah1 hp
    have hst : st1 = [] := hst
    subst hst
    refine lv_goto (tgt := 13) hx hb dL_ring_4 (by decide) ?_
    refine lv_iconst (v := 0) hx hb dL_ring_13 (by decide) ?_
    rw [hQ]; exact h_iret hx hb hr hlk rfl hw (by simp) (by simp) dL_ring_14 (Or.inl ⟨hp, rfl⟩)
set_option maxHeartbeats 4000000 in
set_option maxRecDepth 100000 in
theorem c_L_point (l : Launch) (D : va_G) (dT : Nat → ClassId) (ah : hA) (sz : Nat) (sj out : Nat) (fs : List Value) (he : ah sj = some (.inr (9, fs))) (fL : Nat → Int64) (x y : Int32) (F9 L9 mc ms : Nat) (post : Option Value → hA → Prop) (px : String → Prop) (hM : hMetX l yX9_point cX9_point 3 (some .int) ({ frames := F9, cells := mc, slots := ms, locals := L9 }) D dT (.ref sj :: [.int x, .int y]) ah sz post px mc ms) (hpo : ∀ r ah1, post r ah1 → ∃ v, r = some (.int v) ∧ ah1 out = some (.inl (dT 1, 1, .inr (.inl fL)))) (hpx : ∀ E, px E → E = "java/lang/IllegalArgumentException" ∨ E = "java/lang/IllegalStateException" ∨ E = "java/lang/UnsupportedOperationException") : hMetH l yL_point cL_point 5 (some .int) hh_point ({ frames := F9 + 1, cells := mc, slots := ms, locals := L9 + 22 }) D dT [.ref sj, .int x, .int y, .ref out] ah sz (fun r ah2 => (∃ v ah1, post (some (.int v)) ah1 ∧ r = some (.int 0) ∧ ah2 = hup ah1 out (.inl (dT 1, 1, .inr (.inl (vp_updL fL 0 v.toInt64))))) ∨ (px "java/lang/IllegalArgumentException" ∧ r = some (.int 1) ∧ ah = ah2) ∨ (px "java/lang/IllegalStateException" ∧ r = some (.int 2) ∧ ah = ah2) ∨ (px "java/lang/UnsupportedOperationException" ∧ r = some (.int 3) ∧ ah = ah2)) mc ms := by
  refine h_metH (by decide) (Nat.le_of_ble_eq_true rfl) ?_
  intro p e s m below meth c ls R Q args hav hR hQ hB hl hsz hw hX9 hY9 hET
  obtain ⟨hx, hb, hml, hr, hts, hown, hlk, hin, hK⟩ := hB
  have hown : s.vm.findClass RL = some m.cls := hown
  have hl : lv_has ls 5 [(0, .ref sj), (1, .int x), (2, .int y), (3, .ref out)] := hl
  subst hsz
  refine lv_aload_n hx hb dL_point_0 rfl (lv_at hl 3 rfl) ?_
  refine lv_iconst (v := 0) hx hb dL_point_1 (by decide) ?_
  refine lv_aload_n hx hb dL_point_2 rfl (lv_at hl 0 rfl) ?_
  refine lv_iload_n hx hb dL_point_3 rfl (lv_at hl 1 rfl) ?_
  refine lv_iload_n hx hb dL_point_4 rfl (lv_at hl 2 rfl) ?_
  refine h_callXV (n := 2) (ci := 9) (b := sj) (As := [.int x, .int y]) (rest := [.int 0, .ref out]) ⟨hx, hb, hml, hown, hts⟩ hK hX9 hw hM ko_X9_point km_L_22 ki_X9_point ks_X9_point kn_X9 (by decide +kernel) rfl he rfl hl.1 rfl (by simp [Value.category]) dL_point_5 (by rw [hR]; exact ⟨rfl, rfl, Nat.le_refl _, by show 8 + (3 + 11) + L9 ≤ L9 + 22; omega, by show 0 + mc ≤ mc; omega, by show 0 + ms ≤ ms; omega⟩) (fun E ce q9 H1 L1 hpx9 hw hcell hcv hcl => ?_) (fun r ah1 H1 L1 st1 hp hw hst => ?_)
  · rcases hpx E hpx9 with rfl | rfl | rfl
    · refine vx_catch hown [] ⟨0, 10, 13, 13⟩ [⟨0, 10, 17, 15⟩, ⟨0, 10, 21, 17⟩] hET (fun z hz => absurd hz List.not_mem_nil) (by decide) (by decide) (hts _ kc_L_13) (hY9.cs (List.mem_of_getElem? (i := 0) rfl)) hcell hcv hcl ?_
      refine lv_astore (lv' := [(4, .ref q9), (0, .ref sj), (1, .int x), (2, .int y), (3, .ref out)]) hx hb dL_point_13 hl (by decide) rfl (fun ls hl => ?_)
      refine lv_iconst (v := 1) hx hb dL_point_15 (by decide) ?_
      rw [hQ]; exact h_iret hx hb hr hlk rfl hw (by simp) (by simp) dL_point_16 (Or.inr (Or.inl ⟨hpx9, rfl, rfl⟩))
    · refine vx_catch hown [⟨0, 10, 13, 13⟩] ⟨0, 10, 17, 15⟩ [⟨0, 10, 21, 17⟩] hET (fun z hz => by rw [List.mem_singleton.mp hz]; exact Or.inr ⟨by decide, _, hts _ kc_L_13, hY9.2.1⟩) (by decide) (by decide) (hts _ kc_L_15) (hY9.cs (List.mem_of_getElem? (i := 1) rfl)) hcell hcv hcl ?_
      refine lv_astore (lv' := [(4, .ref q9), (0, .ref sj), (1, .int x), (2, .int y), (3, .ref out)]) hx hb dL_point_17 hl (by decide) rfl (fun ls hl => ?_)
      refine lv_iconst (v := 2) hx hb dL_point_19 (by decide) ?_
      rw [hQ]; exact h_iret hx hb hr hlk rfl hw (by simp) (by simp) dL_point_20 (Or.inr (Or.inr (Or.inl ⟨hpx9, rfl, rfl⟩)))
    · refine vx_catch hown [⟨0, 10, 13, 13⟩, ⟨0, 10, 17, 15⟩] ⟨0, 10, 21, 17⟩ [] hET (fun z hz => by rcases List.mem_cons.mp hz with hz | hz; (rw [hz]; exact Or.inr ⟨by decide, _, hts _ kc_L_13, hY9.2.2.1⟩); (rw [List.mem_singleton.mp hz]; exact Or.inr ⟨by decide, _, hts _ kc_L_15, hY9.2.2.2⟩)) (by decide) (by decide) (hts _ kc_L_17) (hY9.cs (List.mem_of_getElem? (i := 2) rfl)) hcell hcv hcl ?_
      refine lv_astore (lv' := [(4, .ref q9), (0, .ref sj), (1, .int x), (2, .int y), (3, .ref out)]) hx hb dL_point_21 hl (by decide) rfl (fun ls hl => ?_)
      refine lv_iconst (v := 3) hx hb dL_point_23 (by decide) ?_
      rw [hQ]; exact h_iret hx hb hr hlk rfl hw (by simp) (by simp) dL_point_24 (Or.inr (Or.inr (Or.inr (⟨hpx9, rfl, rfl⟩))))
  · obtain ⟨v, rfl, ho⟩ := hpo r ah1 hp
    have hst : st1 = [.int v, .int 0, .ref out] := hst
    subst hst
    refine lv_i2l (v := v.toInt64) hx hb dL_point_8 rfl ?_
    refine h_last hx hb hK hw ho 0 (by decide) (by omega) (by omega) dL_point_9 (fun H2 L2 hw => ?_)
    refine lv_goto (tgt := 25) hx hb dL_point_10 (by decide) ?_
    refine lv_iconst (v := 0) hx hb dL_point_25 (by decide) ?_
    rw [hQ]; exact h_iret hx hb hr hlk rfl hw (by simp) (by simp) dL_point_26 (Or.inl ⟨v, ah1, hp, rfl, rfl⟩)
set_option maxHeartbeats 4000000 in
set_option maxRecDepth 100000 in
theorem c_L_close (l : Launch) (D : va_G) (dT : Nat → ClassId) (ah : hA) (sz : Nat) (sj out : Nat) (fs : List Value) (he : ah sj = some (.inr (9, fs))) (fL : Nat → Int64)  (F9 L9 mc ms : Nat) (post : Option Value → hA → Prop) (px : String → Prop) (hM : hMetX l yX9_close cX9_close 1 (some .int) ({ frames := F9, cells := mc, slots := ms, locals := L9 }) D dT (.ref sj :: []) ah sz post px mc ms) (hpo : ∀ r ah1, post r ah1 → ∃ v, r = some (.int v) ∧ ah1 out = some (.inl (dT 1, 1, .inr (.inl fL)))) (hpx : ∀ E, px E → E = "java/lang/IllegalStateException") : hMetH l yL_close cL_close 3 (some .int) hh_close ({ frames := F9 + 1, cells := mc, slots := ms, locals := L9 + 20 }) D dT [.ref sj, .ref out] ah sz (fun r ah2 => (∃ v ah1, post (some (.int v)) ah1 ∧ r = some (.int 0) ∧ ah2 = hup ah1 out (.inl (dT 1, 1, .inr (.inl (vp_updL fL 0 v.toInt64))))) ∨ (px "java/lang/IllegalStateException" ∧ r = some (.int 1) ∧ ah = ah2)) mc ms := by
  refine h_metH (by decide) (Nat.le_of_ble_eq_true rfl) ?_
  intro p e s m below meth c ls R Q args hav hR hQ hB hl hsz hw hX9 hY9 hET
  obtain ⟨hx, hb, hml, hr, hts, hown, hlk, hin, hK⟩ := hB
  have hown : s.vm.findClass RL = some m.cls := hown
  have hl : lv_has ls 3 [(0, .ref sj), (1, .ref out)] := hl
  subst hsz
  refine lv_aload_n hx hb dL_close_0 rfl (lv_at hl 1 rfl) ?_
  refine lv_iconst (v := 0) hx hb dL_close_1 (by decide) ?_
  refine lv_aload_n hx hb dL_close_2 rfl (lv_at hl 0 rfl) ?_
  refine h_callXV (n := 0) (ci := 9) (b := sj) (As := []) (rest := [.int 0, .ref out]) ⟨hx, hb, hml, hown, hts⟩ hK hX9 hw hM ko_X9_close km_L_26 ki_X9_close ks_X9_close kn_X9 (by decide +kernel) rfl he rfl hl.1 rfl (by simp [Value.category]) dL_close_3 (by rw [hR]; exact ⟨rfl, rfl, Nat.le_refl _, by show 8 + (1 + 11) + L9 ≤ L9 + 20; omega, by show 0 + mc ≤ mc; omega, by show 0 + ms ≤ ms; omega⟩) (fun E ce q9 H1 L1 hpx9 hw hcell hcv hcl => ?_) (fun r ah1 H1 L1 st1 hp hw hst => ?_)
  · rcases hpx E hpx9 with rfl
    · refine vx_catch hown [] ⟨0, 8, 11, 15⟩ [] hET (fun z hz => absurd hz List.not_mem_nil) (by decide) (by decide) (hts _ kc_L_15) (hY9.cs (List.mem_of_getElem? (i := 1) rfl)) hcell hcv hcl ?_
      refine lv_astore_n (lv' := [(2, .ref q9), (0, .ref sj), (1, .ref out)]) hx hb dL_close_11 rfl hl (by decide) rfl (fun ls hl => ?_)
      refine lv_iconst (v := 1) hx hb dL_close_12 (by decide) ?_
      rw [hQ]; exact h_iret hx hb hr hlk rfl hw (by simp) (by simp) dL_close_13 (Or.inr (⟨hpx9, rfl, rfl⟩))
  · obtain ⟨v, rfl, ho⟩ := hpo r ah1 hp
    have hst : st1 = [.int v, .int 0, .ref out] := hst
    subst hst
    refine lv_i2l (v := v.toInt64) hx hb dL_close_6 rfl ?_
    refine h_last hx hb hK hw ho 0 (by decide) (by omega) (by omega) dL_close_7 (fun H2 L2 hw => ?_)
    refine lv_goto (tgt := 14) hx hb dL_close_8 (by decide) ?_
    refine lv_iconst (v := 0) hx hb dL_close_14 (by decide) ?_
    rw [hQ]; exact h_iret hx hb hr hlk rfl hw (by simp) (by simp) dL_close_15 (Or.inl ⟨v, ah1, hp, rfl, rfl⟩)
set_option maxHeartbeats 4000000 in
set_option maxRecDepth 100000 in
theorem c_L_judge (l : Launch) (D : va_G) (dT : Nat → ClassId) (ah : hA) (sz : Nat) (sj out : Nat) (fs : List Value) (he : ah sj = some (.inr (9, fs))) (fL : Nat → Int64)  (F9 L9 mc ms : Nat) (post : Option Value → hA → Prop) (px : String → Prop) (hM : hMetX l yX9_judge cX9_judge 2 (some .int) ({ frames := F9, cells := mc, slots := ms, locals := L9 }) D dT (.ref sj :: []) ah sz post px mc ms) (hpo : ∀ r ah1, post r ah1 → ∃ v, r = some (.int v) ∧ ah1 out = some (.inl (dT 1, 1, .inr (.inl fL)))) (hpx : ∀ E, px E → E = "java/lang/IllegalStateException") : hMetH l yL_judge cL_judge 3 (some .int) hh_judge ({ frames := F9 + 1, cells := mc, slots := ms, locals := L9 + 21 }) D dT [.ref sj, .ref out] ah sz (fun r ah2 => (∃ v ah1, post (some (.int v)) ah1 ∧ r = some (.int 0) ∧ ah2 = hup ah1 out (.inl (dT 1, 1, .inr (.inl (vp_updL fL 0 v.toInt64))))) ∨ (px "java/lang/IllegalStateException" ∧ r = some (.int 1) ∧ ah = ah2)) mc ms := by
  refine h_metH (by decide) (Nat.le_of_ble_eq_true rfl) ?_
  intro p e s m below meth c ls R Q args hav hR hQ hB hl hsz hw hX9 hY9 hET
  obtain ⟨hx, hb, hml, hr, hts, hown, hlk, hin, hK⟩ := hB
  have hown : s.vm.findClass RL = some m.cls := hown
  have hl : lv_has ls 3 [(0, .ref sj), (1, .ref out)] := hl
  subst hsz
  refine lv_aload_n hx hb dL_judge_0 rfl (lv_at hl 1 rfl) ?_
  refine lv_iconst (v := 0) hx hb dL_judge_1 (by decide) ?_
  refine lv_aload_n hx hb dL_judge_2 rfl (lv_at hl 0 rfl) ?_
  refine h_callXV (n := 0) (ci := 9) (b := sj) (As := []) (rest := [.int 0, .ref out]) ⟨hx, hb, hml, hown, hts⟩ hK hX9 hw hM ko_X9_judge km_L_30 ki_X9_judge ks_X9_judge kn_X9 (by decide +kernel) rfl he rfl hl.1 rfl (by simp [Value.category]) dL_judge_3 (by rw [hR]; exact ⟨rfl, rfl, Nat.le_refl _, by show 8 + (2 + 11) + L9 ≤ L9 + 21; omega, by show 0 + mc ≤ mc; omega, by show 0 + ms ≤ ms; omega⟩) (fun E ce q9 H1 L1 hpx9 hw hcell hcv hcl => ?_) (fun r ah1 H1 L1 st1 hp hw hst => ?_)
  · rcases hpx E hpx9 with rfl
    · refine vx_catch hown [] ⟨0, 8, 11, 15⟩ [] hET (fun z hz => absurd hz List.not_mem_nil) (by decide) (by decide) (hts _ kc_L_15) (hY9.cs (List.mem_of_getElem? (i := 1) rfl)) hcell hcv hcl ?_
      refine lv_astore_n (lv' := [(2, .ref q9), (0, .ref sj), (1, .ref out)]) hx hb dL_judge_11 rfl hl (by decide) rfl (fun ls hl => ?_)
      refine lv_iconst (v := 1) hx hb dL_judge_12 (by decide) ?_
      rw [hQ]; exact h_iret hx hb hr hlk rfl hw (by simp) (by simp) dL_judge_13 (Or.inr (⟨hpx9, rfl, rfl⟩))
  · obtain ⟨v, rfl, ho⟩ := hpo r ah1 hp
    have hst : st1 = [.int v, .int 0, .ref out] := hst
    subst hst
    refine lv_i2l (v := v.toInt64) hx hb dL_judge_6 rfl ?_
    refine h_last hx hb hK hw ho 0 (by decide) (by omega) (by omega) dL_judge_7 (fun H2 L2 hw => ?_)
    refine lv_goto (tgt := 14) hx hb dL_judge_8 (by decide) ?_
    refine lv_iconst (v := 0) hx hb dL_judge_14 (by decide) ?_
    rw [hQ]; exact h_iret hx hb hr hlk rfl hw (by simp) (by simp) dL_judge_15 (Or.inl ⟨v, ah1, hp, rfl, rfl⟩)
set_option maxHeartbeats 4000000 in
set_option maxRecDepth 100000 in
theorem c_L_place (l : Launch) (D : va_G) (dT : Nat → ClassId) (ah : hA) (sz : Nat) (sj out : Nat) (fs : List Value) (he : ah sj = some (.inr (9, fs))) (fL : Nat → Int64) (x : Int32) (F9 L9 mc ms : Nat) (post : Option Value → hA → Prop) (px : String → Prop) (hM : hMetX l yX9_place cX9_place 2 (some .int) ({ frames := F9, cells := mc, slots := ms, locals := L9 }) D dT (.ref sj :: [.int x]) ah sz post px mc ms) (hpo : ∀ r ah1, post r ah1 → ∃ v, r = some (.int v) ∧ ah1 out = some (.inl (dT 1, 1, .inr (.inl fL)))) (hpx : ∀ E, px E → E = "java/lang/IndexOutOfBoundsException") : hMetH l yL_place cL_place 4 (some .int) hh_place ({ frames := F9 + 1, cells := mc, slots := ms, locals := L9 + 21 }) D dT [.ref sj, .int x, .ref out] ah sz (fun r ah2 => (∃ v ah1, post (some (.int v)) ah1 ∧ r = some (.int 0) ∧ ah2 = hup ah1 out (.inl (dT 1, 1, .inr (.inl (vp_updL fL 0 v.toInt64))))) ∨ (px "java/lang/IndexOutOfBoundsException" ∧ r = some (.int 1) ∧ ah = ah2)) mc ms := by
  refine h_metH (by decide) (Nat.le_of_ble_eq_true rfl) ?_
  intro p e s m below meth c ls R Q args hav hR hQ hB hl hsz hw hX9 hY9 hET
  obtain ⟨hx, hb, hml, hr, hts, hown, hlk, hin, hK⟩ := hB
  have hown : s.vm.findClass RL = some m.cls := hown
  have hl : lv_has ls 4 [(0, .ref sj), (1, .int x), (2, .ref out)] := hl
  subst hsz
  refine lv_aload_n hx hb dL_place_0 rfl (lv_at hl 2 rfl) ?_
  refine lv_iconst (v := 0) hx hb dL_place_1 (by decide) ?_
  refine lv_aload_n hx hb dL_place_2 rfl (lv_at hl 0 rfl) ?_
  refine lv_iload_n hx hb dL_place_3 rfl (lv_at hl 1 rfl) ?_
  refine h_callXV (n := 1) (ci := 9) (b := sj) (As := [.int x]) (rest := [.int 0, .ref out]) ⟨hx, hb, hml, hown, hts⟩ hK hX9 hw hM ko_X9_place km_L_33 ki_X9_place ks_X9_place kn_X9 (by decide +kernel) rfl he rfl hl.1 rfl (by simp [Value.category]) dL_place_4 (by rw [hR]; exact ⟨rfl, rfl, Nat.le_refl _, by show 8 + (2 + 11) + L9 ≤ L9 + 21; omega, by show 0 + mc ≤ mc; omega, by show 0 + ms ≤ ms; omega⟩) (fun E ce q9 H1 L1 hpx9 hw hcell hcv hcl => ?_) (fun r ah1 H1 L1 st1 hp hw hst => ?_)
  · rcases hpx E hpx9 with rfl
    · refine vx_catch hown [] ⟨0, 9, 12, 36⟩ [] hET (fun z hz => absurd hz List.not_mem_nil) (by decide) (by decide) (hts _ kc_L_36) (hY9.cs (List.mem_of_getElem? (i := 3) rfl)) hcell hcv hcl ?_
      refine lv_astore_n (lv' := [(3, .ref q9), (0, .ref sj), (1, .int x), (2, .ref out)]) hx hb dL_place_12 rfl hl (by decide) rfl (fun ls hl => ?_)
      refine lv_iconst (v := 1) hx hb dL_place_13 (by decide) ?_
      rw [hQ]; exact h_iret hx hb hr hlk rfl hw (by simp) (by simp) dL_place_14 (Or.inr (⟨hpx9, rfl, rfl⟩))
  · obtain ⟨v, rfl, ho⟩ := hpo r ah1 hp
    have hst : st1 = [.int v, .int 0, .ref out] := hst
    subst hst
    refine lv_i2l (v := v.toInt64) hx hb dL_place_7 rfl ?_
    refine h_last hx hb hK hw ho 0 (by decide) (by omega) (by omega) dL_place_8 (fun H2 L2 hw => ?_)
    refine lv_goto (tgt := 15) hx hb dL_place_9 (by decide) ?_
    refine lv_iconst (v := 0) hx hb dL_place_15 (by decide) ?_
    rw [hQ]; exact h_iret hx hb hr hlk rfl hw (by simp) (by simp) dL_place_16 (Or.inl ⟨v, ah1, hp, rfl, rfl⟩)

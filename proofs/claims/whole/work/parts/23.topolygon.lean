/-! ShapeJudge$Shapes.toPolygon -/
/-- first chains and first points as they stand in the rows, with the ends behind them -/
def shV (ns nc np : Nat) (f : Nat → Nat → Int32) (FC FP : Nat → Nat) : Prop :=
  (∀ k, k < ns → f 2 k = nI (FC k)) ∧ FC ns = nc ∧ (∀ k, k < nc → f 3 k = nI (FP k)) ∧ FP nc = np ∧ (∀ k, k < ns → FC k ≤ FC (k + 1)) ∧ ∀ k, k < nc → FP k ≤ FP (k + 1)
theorem up_mono {g : Nat → Nat} {n : Nat} (h : ∀ k, k < n → g k ≤ g (k + 1)) {a b : Nat} (hab : a ≤ b) (hb : b ≤ n) : g a ≤ g b := by
  induction b with
  | zero => rw [show a = 0 by omega]; exact Nat.le_refl _
  | succ b ih =>
    by_cases e : a = b + 1
    · rw [e]; exact Nat.le_refl _
    · exact Nat.le_trans (ih (by omega) (by omega)) (h b (by omega))
theorem shV_m {ns nc np : Nat} {f : Nat → Nat → Int32} {FC FP : Nat → Nat} (h : shV ns nc np f FC FP) {a b : Nat} (hab : a ≤ b) (hb : b ≤ nc) : FP a ≤ FP b := up_mono h.2.2.2.2.2 hab hb
theorem shV_n {ns nc np : Nat} {f : Nat → Nat → Int32} {FC FP : Nat → Nat} (h : shV ns nc np f FC FP) {a : Nat} (ha : a ≤ nc) : FP a ≤ np := by rw [← h.2.2.2.1]; exact shV_m h ha (Nat.le_refl _)
theorem shV_f {ns nc np : Nat} {f : Nat → Nat → Int32} {FC FP : Nat → Nat} (h : shV ns nc np f FC FP) {a b : Nat} (hab : a ≤ b) (hb : b ≤ ns) : FC a ≤ FC b := up_mono h.2.2.2.2.1 hab hb
theorem shV_c {ns nc np : Nat} {f : Nat → Nat → Int32} {FC FP : Nat → Nat} (h : shV ns nc np f FC FP) {a : Nat} (ha : a ≤ ns) : FC a ≤ nc := by rw [← h.2.1]; exact shV_f h ha (Nat.le_refl _)
theorem shPo {ns nc np ch : Nat} {f : Nat → Nat → Int32} {FC FP : Nat → Nat} (h : shV ns nc np f FC FP) (hc : ch < nc) (hn : nc < 2 ^ 31) : rwGet (f 3) nc (nI ch) = nI (FP ch) := (rwGet_n hc hn).trans (h.2.2.1 ch hc)
theorem shPe {ns nc np ch : Nat} {f : Nat → Nat → Int32} {FC FP : Nat → Nat} (h : shV ns nc np f FC FP) (hc : ch < nc) (hn : nc < 2 ^ 31) : shBehind f nc np ch = nI (FP (ch + 1)) := by
  unfold shBehind
  by_cases e : nc ≤ ch + 1
  · rw [if_pos e, show ch + 1 = nc by omega, h.2.2.2.1]
  · rw [if_neg e]; exact shPo h (by omega) hn
def rg0 : rgT := (fun _ => 0, fun _ => 0, false, fun _ => 0, fun _ => none, fun _ => 0, fun _ => 0, fun _ _ => 0)
/-- rings that are being made, and the array qa that holds them -/
def plM (dT : Nat → ClassId) (ah0 ah : hA) (X Y : Nat → Int32) (FP : Nat → Nat) (c0 : Nat) (pt : Int32) (qa i : Nat) (FR : Nat → Option Nat) (RT : Nat → rgT) : Prop :=
  (∀ j, j < i → FR j = some ((RT j).1 0) ∧ rgA dT ah (RT j) ∧ rgD X Y (FP (c0 + j)) (FP (c0 + j + 1)) (RT j) ∧ (RT j).2.1 0 = pt ∧ (RT j).2.1 1 = nI j ∧ ah0 ((RT j).1 0) = none ∧ ah0 ((RT j).1 2) = none ∧ (RT j).1 2 ≠ qa) ∧ ∀ j k, j < i → k < i → (RT j).1 0 = (RT k).1 0 → j = k
theorem plM_0 {dT : Nat → ClassId} {ah0 ah : hA} {X Y : Nat → Int32} {FP : Nat → Nat} {c0 : Nat} {pt : Int32} {qa : Nat} {FR : Nat → Option Nat} {RT : Nat → rgT} : plM dT ah0 ah X Y FP c0 pt qa 0 FR RT := ⟨fun j hj => absurd hj (Nat.not_lt_zero _), fun j _ hj => absurd hj (Nat.not_lt_zero _)⟩
theorem rgA_hup {dT : Nat → ClassId} {ah : hA} {t : rgT} {a : Nat} {x : ClassId × vp_A} {e : va_E} (h : rgA dT ah t) (ha : ah a = some (.inl x)) (hs : t.1 2 ≠ a) : rgA dT (hup ah a e) t := by
  obtain ⟨h1, h2, h3, h4, h5, h6⟩ := h
  refine ⟨(hup_n (h_ne h1 ha (by simp))).trans h1, (hup_n (h_ne h2 ha (by simp))).trans h2, (hup_n hs).trans h3, h4, h5, fun i hi => ?_⟩
  obtain ⟨g1, g2, g3⟩ := h6 i hi
  exact ⟨g1, (hup_n (h_ne g2 ha (by simp))).trans g2, (hup_n (h_ne g3 ha (by simp))).trans g3⟩
theorem rgA_ext {dT : Nat → ClassId} {ah ah' : hA} {t : rgT} (hk : ext ah ah') (h : rgA dT ah t) : rgA dT ah' t := rgAt_up (fun a e h _ => hk a e h) h
theorem plM_s {dT : Nat → ClassId} {ah0 ah ah2 : hA} {X Y : Nat → Int32} {FP : Nat → Nat} {c0 : Nat} {pt : Int32} {qa i : Nat} {FR : Nat → Option Nat} {RT : Nat → rgT} {t : rgT} {x : ClassId × vp_A} {e : va_E} (h : plM dT ah0 ah X Y FP c0 pt qa i FR RT) (hq : ah qa = some (.inl x)) (hx : ext ah ah2) (h0 : ext ah0 ah)
    (h1 : rgA dT ah2 t) (h2 : rgD X Y (FP (c0 + i)) (FP (c0 + i + 1)) t) (h3 : t.2.1 0 = pt) (h4 : t.2.1 1 = nI i) (h6 : ah (t.1 0) = none) (h7 : ah (t.1 2) = none) : plM dT ah0 (hup ah2 qa e) X Y FP c0 pt qa (i + 1) (va_up FR i (some (t.1 0))) (va_up RT i t) := by
  have hq2 := hx _ _ hq
  refine ⟨fun j hj => ?_, fun j k hj hk hjk => ?_⟩
  · by_cases ej : j = i
    · subst ej
      simp only [va_up, if_true]
      have hn : t.1 2 ≠ qa := (h_fr hq h7).symm
      exact ⟨trivial, rgA_hup h1 hq2 hn, h2, h3, h4, ext_n h0 h6, ext_n h0 h7, hn⟩
    · simp only [va_up, if_neg ej]
      obtain ⟨g1, g2, g3, g4, g5, g6, g7, g8⟩ := h.1 j (by omega)
      exact ⟨g1, rgA_hup (rgA_ext hx g2) hq2 g8, g3, g4, g5, g6, g7, g8⟩
  · by_cases ej : j = i
    · by_cases ek : k = i
      · omega
      · simp only [va_up, ej, if_true, if_neg ek] at hjk
        exact absurd hjk.symm (h_fr (h.1 k (by omega)).2.1.1 h6)
    · by_cases ek : k = i
      · simp only [va_up, ek, if_true, if_neg ej] at hjk
        exact absurd hjk (h_fr (h.1 j (by omega)).2.1.1 h6)
      · simp only [va_up, if_neg ej, if_neg ek] at hjk
        exact h.2 j k (by omega) (by omega) hjk
theorem plM_e {dT : Nat → ClassId} {ah0 ah ah1 ah2 : hA} {X Y : Nat → Int32} {FP : Nat → Nat} {c0 : Nat} {pt : Int32} {qa i n pg : Nat} {FR : Nat → Option Nat} {RT : Nat → rgT} {e1 : va_E} (h : plM dT ah0 ah X Y FP c0 pt qa i FR RT) (hq : ah qa = some (.inl (dT 3, n, .inr (.inr (.inr (.inr FR)))))) (hi : n = i) (hn : n ≤ 100000) (hp : ah pg = none) (h1 : ah1 = hup ah pg e1) (h2 : ah2 = hup ah1 pg (.inr (4, [.int pt, .ref qa]))) : plA dT ah2 pg qa n pt FR RT := by
  have hx : ext ah ah2 := fun a e ha => by rw [h2, h1]; exact (hup_n (h_fr ha hp)).trans ((hup_n (h_fr ha hp)).trans ha)
  refine ⟨by rw [h2, hup_s], hx _ _ hq, hn, fun j hj => ?_⟩
  obtain ⟨g1, g2, -⟩ := h.1 j (by omega)
  exact ⟨g1, rgA_ext hx g2⟩
/-- what a polygon holds: its rings are the chains from c0 on -/
def plD (X Y : Nat → Int32) (FP : Nat → Nat) (c0 nr : Nat) (pt : Int32) (RT : Nat → rgT) : Prop :=
  (∀ j, j < nr → rgD X Y (FP (c0 + j)) (FP (c0 + j + 1)) (RT j) ∧ (RT j).2.1 0 = pt ∧ (RT j).2.1 1 = nI j) ∧ ∀ j k, j < nr → k < nr → (RT j).1 0 = (RT k).1 0 → j = k
theorem plM_d {dT : Nat → ClassId} {ah0 ah : hA} {X Y : Nat → Int32} {FP : Nat → Nat} {c0 : Nat} {pt : Int32} {qa i n : Nat} {FR : Nat → Option Nat} {RT : Nat → rgT} (h : plM dT ah0 ah X Y FP c0 pt qa i FR RT) (hi : n = i) : plD X Y FP c0 n pt RT := by
  subst hi
  exact ⟨fun j hj => ⟨(h.1 j hj).2.2.1, (h.1 j hj).2.2.2.1, (h.1 j hj).2.2.2.2.1⟩, h.2⟩
set_option maxHeartbeats 4000000 in
set_option maxRecDepth 100000 in
theorem c_X8_toPolygon (l : Launch) (D : va_G) (dT : Nat → ClassId) (ah : hA) (sz : Nat) (sh : Nat) (RO RA cap : Nat → Nat) (ns nc np no rc : Nat) (f : Nat → Nat → Int32) (hs : shA dT ah sh RO RA cap (v7 ns ns ns nc np np no) f rc) (FC FP : Nat → Nat) (hV : shV ns nc np f FC FP) (si : Nat) (hsi : si < ns) (pt : Int32) : hMet l yX8_toPolygon cX8_toPolygon 7 (some (.object "ShapeJudge$Polygon")) ({ frames := 4, cells := (2 + 3 * (FC (si + 1) - FC si) + 2 * (FP (FC (si + 1)) - FP (FC si))), slots := (2 + 12 * (FC (si + 1) - FC si) + 13 * (FP (FC (si + 1)) - FP (FC si))), locals := 99 }) D dT [.ref sh, .int (nI si), .int pt] ah sz (fun r ah2 => ∃ (pg ra : Nat) (FR : Nat → Option Nat) (RT : Nat → rgT), r = some (.ref pg) ∧ plA dT ah2 pg ra (FC (si + 1) - FC si) pt FR RT ∧ plD (f 4) (f 5) FP (FC si) (FC (si + 1) - FC si) pt RT ∧ ext ah ah2 ∧ ah ra = none ∧ ∀ j, j < FC (si + 1) - FC si → ah ((RT j).1 0) = none ∧ ah ((RT j).1 2) = none) (2 + 3 * (FC (si + 1) - FC si) + 2 * (FP (FC (si + 1)) - FP (FC si))) (2 + 12 * (FC (si + 1) - FC si) + 13 * (FP (FC (si + 1)) - FP (FC si))) := by
  refine h_met (by decide) (Nat.le_of_ble_eq_true rfl) ?_
  intro p e s m below meth c ls R Q args hav hR hQ hB hl hsz hw
  obtain ⟨hx, hb, hml, hr, hts, hown, hlk, hin, hK⟩ := hB
  have hown : s.vm.findClass RX8 = some m.cls := hown
  have hl : lv_has ls 7 [(0, .ref sh), (1, .int (nI si)), (2, .int pt)] := hl
  have hb0 : ns ≤ cap 0 ∧ 32 ≤ cap 0 ∧ cap 0 ≤ 40000 := (hs.2.1 0 (by omega)).2.2
  have hb1 : ns ≤ cap 1 ∧ 32 ≤ cap 1 ∧ cap 1 ≤ 40000 := (hs.2.1 1 (by omega)).2.2
  have hb2 : ns ≤ cap 2 ∧ 32 ≤ cap 2 ∧ cap 2 ≤ 40000 := (hs.2.1 2 (by omega)).2.2
  have hb3 : nc ≤ cap 3 ∧ 32 ≤ cap 3 ∧ cap 3 ≤ 40000 := (hs.2.1 3 (by omega)).2.2
  have hb4 : np ≤ cap 4 ∧ 32 ≤ cap 4 ∧ cap 4 ≤ 40000 := (hs.2.1 4 (by omega)).2.2
  have hb5 : np ≤ cap 5 ∧ 32 ≤ cap 5 ∧ cap 5 ≤ 40000 := (hs.2.1 5 (by omega)).2.2
  have hb6 : no ≤ cap 6 ∧ 32 ≤ cap 6 ∧ cap 6 ≤ 40000 := (hs.2.1 6 (by omega)).2.2
  have hf1 : FC si ≤ FC (si + 1) := hV.2.2.2.2.1 si hsi
  have hf2 : FC (si + 1) ≤ nc := shV_c hV (by omega)
  have hf3 : FP (FC si) ≤ FP (FC (si + 1)) := shV_m hV hf1 hf2
  refine lv_aload_n hx hb dX8_toPolygon_0 rfl (lv_at hl 0 rfl) ?_
  refine h_get (ci := 8) (v := .ref (RO 2)) (C := RX8) (T := TX8) (N := 8) hx hb hts kl_X8 hown hK hw hs.1 rfl 2 (by decide) (hts _ kf_X8_21) rfl rfl dX8_toPolygon_1 ?_
  refine lv_iload_n hx hb dX8_toPolygon_4 rfl (lv_at hl 1 rfl) ?_
  refine h_callV (n := 1) (ci := 6) (b := (RO 2)) (As := [.int (nI si)]) (rest := []) ⟨hx, hb, hml, hown, hts⟩ hK hw (c_X6_get l D dT ah s.heap.size (RO 2) (RA 2) (cap 2) ns (f 2) (by omega) (by omega) (hs.2.1 2 (by omega)).1 (hs.2.1 2 (by omega)).2.1 (nI si)) ko_X6_get km_X8_47 ki_X6_get ks_X6_get kn_X6 (by decide +kernel) rfl (hs.2.1 2 (by omega)).1 rfl hl.1 rfl (by simp [Value.category]) dX8_toPolygon_5 (by rw [hR]; exact ⟨rfl, rfl, Nat.le_of_ble_eq_true rfl, Nat.le_of_ble_eq_true rfl, (by dsimp only; omega), (by dsimp only; omega)⟩) (fun r_1 ah_2 H_3 L_4 st_5 hp hw hst => ?_)
  obtain ⟨hr_6, rfl⟩ := hp
  rw [show rwGet (f 2) ns (nI si) = nI (FC si) from (rwGet_n (by omega) (by omega)).trans (hV.1 _ (by omega))] at hr_6
  subst hr_6
  have hst : st_5 = [.int (nI (FC si))] := hst
  subst hst
  refine lv_istore_n (lv' := [(3, .int (nI (FC si))), (0, .ref sh), (1, .int (nI si)), (2, .int pt)]) hx hb dX8_toPolygon_8 rfl hl (by decide) rfl (fun ls hl => ?_)
  refine lv_iload_n hx hb dX8_toPolygon_9 rfl (lv_at hl 2 rfl) ?_
  refine lv_iconst (v := 1) hx hb dX8_toPolygon_10 (by decide) ?_
  refine lv_iadd hx hb dX8_toPolygon_11 ?_
  refine lv_topi (fun t_7 et_7 => ?_)
  obtain rfl : t_7 = nI (si + 1) := et_7.trans (nI_c _ 1)
  refine lv_aload_n hx hb dX8_toPolygon_12 rfl (lv_at hl 1 rfl) ?_
  refine h_get (ci := 8) (v := .ref (RO 0)) (C := RX8) (T := TX8) (N := 8) hx hb hts kl_X8 hown hK hw hs.1 rfl 0 (by decide) (hts _ kf_X8_12) rfl rfl dX8_toPolygon_13 ?_
  refine h_callV (n := 0) (ci := 6) (b := (RO 0)) (As := []) (rest := [.int (nI (si + 1))]) ⟨hx, hb, hml, hown, hts⟩ hK hw (c_X6_size l D dT ah H_3.size (RO 0) (RA 0) (cap 0) ns (f 0) (by omega) (by omega) (hs.2.1 0 (by omega)).1 (hs.2.1 0 (by omega)).2.1) ko_X6_size km_X8_43 ki_X6_size ks_X6_size kn_X6 (by decide +kernel) rfl (hs.2.1 0 (by omega)).1 rfl hl.1 rfl (by simp [Value.category]) dX8_toPolygon_16 (by rw [hR]; exact ⟨rfl, rfl, Nat.le_of_ble_eq_true rfl, Nat.le_of_ble_eq_true rfl, (by dsimp only; omega), (by dsimp only; omega)⟩) (fun r_8 ah_9 H_10 L_11 st_12 hp hw hst => ?_)
  obtain ⟨rfl, rfl⟩ := hp
  have hst : st_12 = [.int (nI ns), .int (nI (si + 1))] := hst
  subst hst
  have J_29 : ∀ (ls : Array Slot) (H_27 : Heap) (L_28 : List Loc), lv_has ls 7 [(3, .int (nI (FC si))), (0, .ref sh), (1, .int (nI si)), (2, .int pt)] → hW D ah s.heap ah H_27 L_28 → W p l e R s m args below meth c H_27 L_28 (0) (0) Q (F0 m 42 ls [.int (nI (FC (si + 1)))]) := by
    intro ls H_27 L_28 hl hw
    refine lv_istore (lv' := [(4, .int (nI (FC (si + 1)))), (3, .int (nI (FC si))), (0, .ref sh), (1, .int (nI si)), (2, .int pt)]) hx hb dX8_toPolygon_42 hl (by decide) rfl (fun ls hl => ?_)
    refine lv_iconst (v := 0) hx hb dX8_toPolygon_44 (by decide) ?_
    refine lv_iload hx hb dX8_toPolygon_45 (lv_at hl 0 rfl) ?_
    refine lv_iload_n hx hb dX8_toPolygon_47 rfl (lv_at hl 1 rfl) ?_
    refine lv_isub hx hb dX8_toPolygon_48 ?_
    refine lv_topi (fun t_30 et_30 => ?_)
    obtain rfl : t_30 = nI ((FC (si + 1)) - (FC si)) := et_30.trans (pk_sub (by omega))
    refine va_mmax hx hb (by rw [hml]; exact hl.1.symm) hown (hts _ km_X8_70) (hts _ kt_J9_max_7cf53) (hts _ kn_J9) (hts _ ko_Math_max) (by rw [hR]; exact Nat.le_of_ble_eq_true rfl) (by rw [hR]; exact Nat.le_of_ble_eq_true rfl) (by rw [hR]; dsimp only; omega) (by rw [hR]; dsimp only; omega) dX8_toPolygon_49 ?_
    refine lv_topi (fun t_31 et_31 => ?_)
    obtain rfl : t_31 = nI ((FC (si + 1)) - (FC si)) := et_31.trans (mx0_n (by omega))
    refine h_newq hx hb hown (hts _ kc_X8_82) hK.2.2.2.1 hK hw 3 rfl ((FC (si + 1)) - (FC si)) rfl (by omega) (by rw [hR]; dsimp only; omega) (by rw [hR]; dsimp only; omega) dX8_toPolygon_52 (fun q_32 H_33 hqq_32 hw => ?_)
    obtain ⟨ah_34, eah_34⟩ : ∃ z9 : hA, z9 = hup ah q_32 (.inl (dT 3, (FC (si + 1)) - (FC si), .inr (.inr (.inr (.inr (fun _ => none)))))) := ⟨_, rfl⟩
    have hw : hW D ah s.heap ah_34 H_33 L_28 := by rw [eah_34]; exact hw
    have hne_36 : sh ≠ q_32 := h_fr hs.1 hqq_32
    have hc_35 := (show ah_34 sh = _ from (by rw [eah_34]; exact hup_n (hne_36))).trans hs.1
    have hne_38 : RO 0 ≠ q_32 := h_fr (hs.2.1 0 (by omega)).1 hqq_32
    have hc_37 := (show ah_34 (RO 0) = _ from (by rw [eah_34]; exact hup_n (hne_38))).trans (hs.2.1 0 (by omega)).1
    have hne_40 : RA 0 ≠ q_32 := h_fr (hs.2.1 0 (by omega)).2.1 hqq_32
    have hc_39 := (show ah_34 (RA 0) = _ from (by rw [eah_34]; exact hup_n (hne_40))).trans (hs.2.1 0 (by omega)).2.1
    have hne_42 : RO 1 ≠ q_32 := h_fr (hs.2.1 1 (by omega)).1 hqq_32
    have hc_41 := (show ah_34 (RO 1) = _ from (by rw [eah_34]; exact hup_n (hne_42))).trans (hs.2.1 1 (by omega)).1
    have hne_44 : RA 1 ≠ q_32 := h_fr (hs.2.1 1 (by omega)).2.1 hqq_32
    have hc_43 := (show ah_34 (RA 1) = _ from (by rw [eah_34]; exact hup_n (hne_44))).trans (hs.2.1 1 (by omega)).2.1
    have hne_46 : RO 2 ≠ q_32 := h_fr (hs.2.1 2 (by omega)).1 hqq_32
    have hc_45 := (show ah_34 (RO 2) = _ from (by rw [eah_34]; exact hup_n (hne_46))).trans (hs.2.1 2 (by omega)).1
    have hne_48 : RA 2 ≠ q_32 := h_fr (hs.2.1 2 (by omega)).2.1 hqq_32
    have hc_47 := (show ah_34 (RA 2) = _ from (by rw [eah_34]; exact hup_n (hne_48))).trans (hs.2.1 2 (by omega)).2.1
    have hne_50 : RO 3 ≠ q_32 := h_fr (hs.2.1 3 (by omega)).1 hqq_32
    have hc_49 := (show ah_34 (RO 3) = _ from (by rw [eah_34]; exact hup_n (hne_50))).trans (hs.2.1 3 (by omega)).1
    have hne_52 : RA 3 ≠ q_32 := h_fr (hs.2.1 3 (by omega)).2.1 hqq_32
    have hc_51 := (show ah_34 (RA 3) = _ from (by rw [eah_34]; exact hup_n (hne_52))).trans (hs.2.1 3 (by omega)).2.1
    have hne_54 : RO 4 ≠ q_32 := h_fr (hs.2.1 4 (by omega)).1 hqq_32
    have hc_53 := (show ah_34 (RO 4) = _ from (by rw [eah_34]; exact hup_n (hne_54))).trans (hs.2.1 4 (by omega)).1
    have hne_56 : RA 4 ≠ q_32 := h_fr (hs.2.1 4 (by omega)).2.1 hqq_32
    have hc_55 := (show ah_34 (RA 4) = _ from (by rw [eah_34]; exact hup_n (hne_56))).trans (hs.2.1 4 (by omega)).2.1
    have hne_58 : RO 5 ≠ q_32 := h_fr (hs.2.1 5 (by omega)).1 hqq_32
    have hc_57 := (show ah_34 (RO 5) = _ from (by rw [eah_34]; exact hup_n (hne_58))).trans (hs.2.1 5 (by omega)).1
    have hne_60 : RA 5 ≠ q_32 := h_fr (hs.2.1 5 (by omega)).2.1 hqq_32
    have hc_59 := (show ah_34 (RA 5) = _ from (by rw [eah_34]; exact hup_n (hne_60))).trans (hs.2.1 5 (by omega)).2.1
    have hne_62 : RO 6 ≠ q_32 := h_fr (hs.2.1 6 (by omega)).1 hqq_32
    have hc_61 := (show ah_34 (RO 6) = _ from (by rw [eah_34]; exact hup_n (hne_62))).trans (hs.2.1 6 (by omega)).1
    have hne_64 : RA 6 ≠ q_32 := h_fr (hs.2.1 6 (by omega)).2.1 hqq_32
    have hc_63 := (show ah_34 (RA 6) = _ from (by rw [eah_34]; exact hup_n (hne_64))).trans (hs.2.1 6 (by omega)).2.1
    have hc_q_32 : ah_34 q_32 = some (.inl (dT 3, (FC (si + 1)) - (FC si), .inr (.inr (.inr (.inr (fun _ => none)))))) := by rw [eah_34]; exact hup_s
    have hE55 : ext ah ah_34 := by rw [eah_34]; exact ext_new hqq_32
    have hs55 := shA_ext hE55 hs
    refine lv_astore (lv' := [(5, .ref q_32), (4, .int (nI (FC (si + 1)))), (3, .int (nI (FC si))), (0, .ref sh), (1, .int (nI si)), (2, .int pt)]) hx hb dX8_toPolygon_55 hl (by decide) rfl (fun ls hl => ?_)
    refine lv_iconst (v := 0) hx hb dX8_toPolygon_57 (by decide) ?_
    refine lv_istore (lv' := [(6, .int 0), (5, .ref q_32), (4, .int (nI (FC (si + 1)))), (3, .int (nI (FC si))), (0, .ref sh), (1, .int (nI si)), (2, .int pt)]) hx hb dX8_toPolygon_58 hl (by decide) rfl (fun ls hl => ?_)
    have LP60 : ∀ (k60 : Nat) (i : Nat) (FR : Nat → Option Nat) (RT : Nat → rgT) (ah60 : hA) (ls : Array Slot) (H60 : Heap) (L60 : List Loc), (FC (si + 1) - FC si - i < k60) → (i ≤ FC (si + 1) - FC si) → (ah60 q_32 = some (.inl (dT 3, FC (si + 1) - FC si, .inr (.inr (.inr (.inr FR)))))) → (shA dT ah60 sh RO RA cap (v7 ns ns ns nc np np no) f rc) → (ext ah ah60) → (plM dT ah ah60 (f 4) (f 5) FP (FC si) pt q_32 i FR RT) → lv_has ls 7 [(6, .int (nI i)), (5, .ref q_32), (4, .int (nI (FC (si + 1)))), (3, .int (nI (FC si))), (0, .ref sh), (1, .int (nI si)), (2, .int pt)] → hW D ah s.heap ah60 H60 L60 → W p l e R s m args below meth c H60 L60 (1 + 3 * i + 2 * (FP (FC si + i) - FP (FC si))) ((FC (si + 1) - FC si) + 11 * i + 13 * (FP (FC si + i) - FP (FC si))) Q (F0 m 60 ls []) := by
      intro k60
      induction k60 with
      | zero => intro i FR RT ah60 ls H60 L60 hk; exact absurd hk (Nat.not_lt_zero _)
      | succ k60 ih60 =>
        intro i FR RT ah60 ls H60 L60 hk60 hi60 hqa60 hs60 hE60 hM60 hl hw
        have hm1 : FP (FC si) ≤ FP (FC si + i) := shV_m hV (by omega) (by omega)
        have hm3 : FP (FC si + i) ≤ FP (FC (si + 1)) := shV_m hV (by omega) (by omega)
        have hb60 : np ≤ cap 4 ∧ 32 ≤ cap 4 ∧ cap 4 ≤ 40000 := (hs60.2.1 4 (by omega)).2.2
        refine lv_iload hx hb dX8_toPolygon_60 (lv_at hl 0 rfl) ?_
        refine lv_aload hx hb dX8_toPolygon_62 (lv_at hl 1 rfl) ?_
        refine h_alen hx hb hK hw 3 rfl hqa60 dX8_toPolygon_64 ?_
        refine lv_icmp_ge (tgt := 90) hx hb dX8_toPolygon_65 (by decide) (fun c_65 => ?_) (fun c_65 => ?_)
        · skip
          have c_65 : FC (si + 1) - FC si ≤ i := (nI_lex (by rfl) (by rfl) (by omega) (by omega)).mp c_65
          refine h_new (ci := 4) (fs := [.int 0, .null]) (C := RX4) (T := TX4) (N := 2) hx hb hts kl_X4 tyX4 tyX4_ok hown (hts _ kc_X8_76) (hts _ ka_X4) (hts _ kn_X4) hK hw rfl (hdef_X4) (by rw [hR]; dsimp only; omega) (by rw [hR]; dsimp only; omega) dX8_toPolygon_90 (fun q_66 H_67 hqq_66 hw => ?_)
          obtain ⟨ah_68, eah_68⟩ : ∃ z9 : hA, z9 = hup ah60 q_66 (.inr (4, [.int 0, .null])) := ⟨_, rfl⟩
          have hw : hW D ah s.heap ah_68 H_67 L60 := by rw [eah_68]; exact hw
          have hne_70 : q_32 ≠ q_66 := h_fr hqa60 hqq_66
          have hc_69 := (show ah_68 q_32 = _ from (by rw [eah_68]; exact hup_n (hne_70))).trans hqa60
          have hne_72 : sh ≠ q_66 := h_fr hs60.1 hqq_66
          have hc_71 := (show ah_68 sh = _ from (by rw [eah_68]; exact hup_n (hne_72))).trans hs60.1
          have hc_q_66 : ah_68 q_66 = some (.inr (4, [.int 0, .null])) := by rw [eah_68]; exact hup_s
          refine lv_dup hx hb dX8_toPolygon_93 rfl ?_
          refine lv_iload_n hx hb dX8_toPolygon_94 rfl (lv_at hl 6 rfl) ?_
          refine lv_aload hx hb dX8_toPolygon_95 (lv_at hl 1 rfl) ?_
          refine h_callI (n := 2) (b := q_66) (As := [.int pt, .ref q_32]) (rest := [.ref q_66]) ⟨hx, hb, hml, hown, hts⟩ hK hw (c_X4_init l D dT ah_68 H_67.size q_66 q_32 pt hc_q_66) ko_X4_init km_X8_88 ki_X4_init kn_X4 rfl (by decide +kernel) rfl hl.1 rfl (by simp [Value.category]) dX8_toPolygon_97 (by rw [hR]; exact ⟨rfl, rfl, Nat.le_of_ble_eq_true rfl, Nat.le_of_ble_eq_true rfl, (by dsimp only; omega), (by dsimp only; omega)⟩) (fun r_73 ah_74 H_75 L_76 st_77 hp hw hst => ?_)
          obtain ⟨rfl, eah_74⟩ := hp
          have hst : st_77 = [.ref q_66] := hst
          subst hst
          rw [hQ]
          exact h_aret hx hb hr (Or.inl ⟨_, rfl⟩) hlk hsz hw (by rw [show i = FC (si + 1) - FC si by omega, show FC si + (FC (si + 1) - FC si) = FC (si + 1) by omega]; omega) (by rw [show i = FC (si + 1) - FC si by omega, show FC si + (FC (si + 1) - FC si) = FC (si + 1) by omega]; omega) dX8_toPolygon_100 ⟨q_66, q_32, FR, RT, rfl, plM_e (i := i) hM60 hqa60 (by omega) (by omega) hqq_66 eah_68 eah_74, plM_d hM60 (by omega), (fun a9 e9 h9 => by rw [eah_74, eah_68]; exact (hup_n (h_fr (hE60 a9 e9 h9) hqq_66)).trans ((hup_n (h_fr (hE60 a9 e9 h9) hqq_66)).trans (hE60 a9 e9 h9))), hqq_32, fun j hj => ⟨(hM60.1 j (by omega)).2.2.2.2.2.1, (hM60.1 j (by omega)).2.2.2.2.2.2.1⟩⟩
        · skip
          have c_65 : ¬ (FC (si + 1) - FC si ≤ i) := (not_congr (nI_lex (by rfl) (by rfl) (by omega) (by omega))).mp c_65
          have hm2 : FP (FC si + i) ≤ FP (FC si + i + 1) := hV.2.2.2.2.2 _ (by omega)
          have hm5 : FP (FC si + i + 1) ≤ np := shV_n hV (by omega)
          have hm4 : FP (FC si + i + 1) ≤ FP (FC (si + 1)) := shV_m hV (by omega) (by omega)
          refine lv_aload hx hb dX8_toPolygon_68 (lv_at hl 1 rfl) ?_
          refine lv_iload hx hb dX8_toPolygon_70 (lv_at hl 0 rfl) ?_
          refine lv_aload_n hx hb dX8_toPolygon_72 rfl (lv_at hl 4 rfl) ?_
          refine lv_iload_n hx hb dX8_toPolygon_73 rfl (lv_at hl 3 rfl) ?_
          refine lv_iload hx hb dX8_toPolygon_74 (lv_at hl 0 rfl) ?_
          refine lv_iadd hx hb dX8_toPolygon_76 ?_
          refine lv_topi (fun t_78 et_78 => ?_)
          obtain rfl : t_78 = nI (FC si + i) := et_78.trans (nI_add _ _)
          refine lv_iload_n hx hb dX8_toPolygon_77 rfl (lv_at hl 6 rfl) ?_
          refine lv_iload hx hb dX8_toPolygon_78 (lv_at hl 0 rfl) ?_
          refine h_callV (n := 3) (ci := 8) (b := sh) (As := [.int (nI (FC si + i)), .int pt, .int (nI i)]) (rest := [.int (nI i), .ref q_32]) ⟨hx, hb, hml, hown, hts⟩ hK hw (c_X8_toRing l D dT ah60 H60.size sh RO RA cap ns nc np no rc f hs60 (FC si + i) (FP (FC si + i)) (FP (FC si + i + 1)) (by omega) (shPo hV (by omega) (by omega)) (shPe hV (by omega) (by omega)) (by omega) (by omega) pt (nI i)) ko_X8_toRing km_X8_84 ki_X8_toRing ks_X8_toRing kn_X8 (by decide +kernel) rfl hs60.1 rfl hl.1 rfl (by simp [Value.category]) dX8_toPolygon_80 (by rw [hR]; exact ⟨rfl, rfl, Nat.le_of_ble_eq_true rfl, Nat.le_of_ble_eq_true rfl, (by dsimp only; omega), (by dsimp only; omega)⟩) (fun r_79 ah_80 H_81 L_82 st_83 hp hw hst => ?_)
          obtain ⟨t9, rfl, ht1, ht2, ht3, ht4, ht5, ht6, ht7⟩ := hp
          have hs2 := shA_ext ht5 hs60
          have hqa2 := ht5 _ _ hqa60
          have hst : st_83 = [.ref (t9.1 0), .int (nI i), .ref q_32] := hst
          subst hst
          refine h_aast hx hb hK hw 3 5 hqa2 rfl ht1.1 rfl i rfl (by omega) (by omega) dX8_toPolygon_83 (fun H_84 L_85 hw => ?_)
          obtain ⟨ah_86, eah_86⟩ : ∃ z9 : hA, z9 = hup ah_80 q_32 (.inl (dT 3, FC (si + 1) - FC si, .inr (.inr (.inr (.inr (va_up FR i (some (t9.1 0)))))))) := ⟨_, rfl⟩
          have hw : hW D ah s.heap ah_86 H_84 L_85 := by rw [eah_86]; exact hw
          have hc_87 : ah_86 q_32 = some (.inl (dT 3, FC (si + 1) - FC si, .inr (.inr (.inr (.inr (va_up FR i (some (t9.1 0)))))))) := by rw [eah_86]; exact hup_s
          have hc_88 := (show ah_86 (t9.1 0) = _ from (by rw [eah_86]; exact hup_n (h_ne ht1.1 hqa2 (by simp)))).trans ht1.1
          refine lv_iinc (v := nI (i + 1)) (lv' := [(6, .int (nI (i + 1))), (5, .ref q_32), (4, .int (nI (FC (si + 1)))), (3, .int (nI (FC si))), (0, .ref sh), (1, .int (nI si)), (2, .int pt)]) hx hb dX8_toPolygon_84 hl (k := 0) rfl (nI_c _ 1) (by decide) rfl (fun ls hl => ?_)
          refine lv_goto (tgt := 60) hx hb dX8_toPolygon_87 (by decide) ?_
          refine W.widen (k := 1 + 3 * (i + 1) + 2 * (FP (FC si + (i + 1)) - FP (FC si))) (n := (FC (si + 1) - FC si) + 11 * (i + 1) + 13 * (FP (FC si + (i + 1)) - FP (FC si))) (by have h7 : FP (FC si + (i + 1)) = FP (FC si + i + 1) := rfl; omega) (by have h7 : FP (FC si + (i + 1)) = FP (FC si + i + 1) := rfl; omega) ?_
          exact ih60 (i + 1) (va_up FR i (some (t9.1 0))) (va_up RT i t9) ah_86 ls _ _ (by omega) (by omega) hc_87 (shA_kp (fun a9 e9 h9 hk9 => (show ah_86 a9 = some e9 by rw [eah_86]; exact (hup_n (shk_s h9 hk9 hqa2)).trans h9)) hs2) (fun a9 e9 h9 => by rw [eah_86]; exact (hup_n (h_fr h9 hqq_32)).trans (ht5 a9 e9 (hE60 a9 e9 h9))) (by rw [eah_86]; exact plM_s hM60 hqa60 ht5 hE60 ht1 ht2 ht3 ht4 ht6 ht7) (lv_sub hl [0, 1, 2, 3, 4, 5, 6] rfl) hw
    refine W.widen (k := 1 + 3 * 0 + 2 * (FP (FC si + 0) - FP (FC si))) (n := (FC (si + 1) - FC si) + 11 * 0 + 13 * (FP (FC si + 0) - FP (FC si))) (by simp) (by simp) ?_
    exact LP60 ((FC (si + 1) - FC si - 0) + 1) 0 (fun _ => none) (fun _ => rg0) ah_34 ls _ _ (Nat.lt_succ_self _) (by omega) hc_q_32 hs55 hE55 plM_0 (lv_sub hl [0, 1, 2, 3, 4, 5, 6] rfl) hw
  refine lv_icmp_ge (tgt := 35) hx hb dX8_toPolygon_19 (by decide) (fun c_13 => ?_) (fun c_13 => ?_)
  · skip
    have c_13 : ns ≤ si + 1 := (nI_lex (by rfl) (by rfl) (by omega) (by omega)).mp c_13
    refine lv_aload_n hx hb dX8_toPolygon_35 rfl (lv_at hl 1 rfl) ?_
    refine h_get (ci := 8) (v := .ref (RO 3)) (C := RX8) (T := TX8) (N := 8) hx hb hts kl_X8 hown hK hw hs.1 rfl 3 (by decide) (hts _ kf_X8_24) rfl rfl dX8_toPolygon_36 ?_
    refine h_callV (n := 0) (ci := 6) (b := (RO 3)) (As := []) (rest := []) ⟨hx, hb, hml, hown, hts⟩ hK hw (c_X6_size l D dT ah H_10.size (RO 3) (RA 3) (cap 3) nc (f 3) (by omega) (by omega) (hs.2.1 3 (by omega)).1 (hs.2.1 3 (by omega)).2.1) ko_X6_size km_X8_43 ki_X6_size ks_X6_size kn_X6 (by decide +kernel) rfl (hs.2.1 3 (by omega)).1 rfl hl.1 rfl (by simp [Value.category]) dX8_toPolygon_39 (by rw [hR]; exact ⟨rfl, rfl, Nat.le_of_ble_eq_true rfl, Nat.le_of_ble_eq_true rfl, (by dsimp only; omega), (by dsimp only; omega)⟩) (fun r_14 ah_15 H_16 L_17 st_18 hp hw hst => ?_)
    obtain ⟨hr_19, rfl⟩ := hp
    rw [show nI nc = nI (FC (si + 1)) from (by rw [show si + 1 = ns by omega, hV.2.1])] at hr_19
    subst hr_19
    have hst : st_18 = [.int (nI (FC (si + 1)))] := hst
    subst hst
    exact J_29  ls _ _ (lv_sub hl [0, 1, 2, 3] rfl) hw 
  · skip
    have c_13 : ¬ (ns ≤ si + 1) := (not_congr (nI_lex (by rfl) (by rfl) (by omega) (by omega))).mp c_13
    refine lv_aload_n hx hb dX8_toPolygon_22 rfl (lv_at hl 1 rfl) ?_
    refine h_get (ci := 8) (v := .ref (RO 2)) (C := RX8) (T := TX8) (N := 8) hx hb hts kl_X8 hown hK hw hs.1 rfl 2 (by decide) (hts _ kf_X8_21) rfl rfl dX8_toPolygon_23 ?_
    refine lv_iload_n hx hb dX8_toPolygon_26 rfl (lv_at hl 2 rfl) ?_
    refine lv_iconst (v := 1) hx hb dX8_toPolygon_27 (by decide) ?_
    refine lv_iadd hx hb dX8_toPolygon_28 ?_
    refine lv_topi (fun t_20 et_20 => ?_)
    obtain rfl : t_20 = nI (si + 1) := et_20.trans (nI_c _ 1)
    refine h_callV (n := 1) (ci := 6) (b := (RO 2)) (As := [.int (nI (si + 1))]) (rest := []) ⟨hx, hb, hml, hown, hts⟩ hK hw (c_X6_get l D dT ah H_10.size (RO 2) (RA 2) (cap 2) ns (f 2) (by omega) (by omega) (hs.2.1 2 (by omega)).1 (hs.2.1 2 (by omega)).2.1 (nI (si + 1))) ko_X6_get km_X8_47 ki_X6_get ks_X6_get kn_X6 (by decide +kernel) rfl (hs.2.1 2 (by omega)).1 rfl hl.1 rfl (by simp [Value.category]) dX8_toPolygon_29 (by rw [hR]; exact ⟨rfl, rfl, Nat.le_of_ble_eq_true rfl, Nat.le_of_ble_eq_true rfl, (by dsimp only; omega), (by dsimp only; omega)⟩) (fun r_21 ah_22 H_23 L_24 st_25 hp hw hst => ?_)
    obtain ⟨hr_26, rfl⟩ := hp
    rw [show rwGet (f 2) ns (nI (si + 1)) = nI (FC (si + 1)) from (rwGet_n (by omega) (by omega)).trans (hV.1 _ (by omega))] at hr_26
    subst hr_26
    have hst : st_25 = [.int (nI (FC (si + 1)))] := hst
    subst hst
    refine lv_goto (tgt := 42) hx hb dX8_toPolygon_32 (by decide) ?_
    exact J_29  ls _ _ (lv_sub hl [0, 1, 2, 3] rfl) hw 

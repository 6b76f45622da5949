/-! ShapeJudge$Shapes.polygonsOf -/
theorem shCnt_u {f : Nat → Nat → Int32} {ns si a b : Nat} (ha : shCnt f ns si a) (hb : shCnt f ns si b) : a = b := by
  rcases ha with ⟨h1, ⟨h2, h3⟩ | ⟨h2, h3⟩⟩ | ⟨h1, h2, h3⟩ | ⟨h1, h2, h3, h4⟩ <;> rcases hb with ⟨g1, ⟨g2, g3⟩ | ⟨g2, g3⟩⟩ | ⟨g1, g2, g3⟩ | ⟨g1, g2, g3, g4⟩ <;> try (first | omega | contradiction)
  · rw [h1] at g1; exact absurd g1 (by decide)
  · rw [h1] at g1; exact absurd g1 (by decide)
  · rw [h1] at g1; exact absurd g1 (by decide)
  · rw [h1] at g1; exact absurd g1 (by decide)
  · rcases Nat.lt_trichotomy a b with h | h | h
    · rcases h4 with h4 | h4
      · omega
      · exact absurd (g3 (si + 1 + a) (by omega) (by omega)) h4
    · exact h
    · rcases g4 with g4 | g4
      · omega
      · exact absurd (h3 (si + 1 + b) (by omega) (by omega)) g4
def shFi (f : Nat → Nat → Int32) (ns si : Nat) : Nat := if rwGet (f 0) ns (nI si) = 6 then si + 1 else si
theorem shFi_e {f : Nat → Nat → Int32} {ns si fi : Nat} (h : fi = shFi f ns si) : (if rwGet (f 0) ns (nI si) = 6 then nI (si + 1) else nI si) = nI fi := by
  rw [h]; unfold shFi; by_cases h : rwGet (f 0) ns (nI si) = 6 <;> simp [h]
theorem shFi_le {f : Nat → Nat → Int32} {ns si cn : Nat} (h : shCnt f ns si cn) (hsi : si < ns) : shFi f ns si + cn ≤ ns := by
  unfold shFi
  rcases h with ⟨h1, ⟨h2, h3⟩ | ⟨h2, h3⟩⟩ | ⟨h1, h2, h3⟩ | ⟨h1, h2, h3, h4⟩
  · rw [if_neg (by rw [h1]; decide)]; omega
  · rw [if_neg (by rw [h1]; decide)]; omega
  · rw [if_neg h2]; omega
  · rw [if_pos h1]; omega
/-- a part: its polygon, the array of rings, what that holds, and the rings -/
abbrev pT : Type := Nat × Nat × (Nat → Option Nat) × (Nat → rgT)
def pT0 : pT := (0, 0, fun _ => none, fun _ => rg0)
/-- the polygons that are looked at together, the shapes from fi on, and the array qa that holds them -/
def mpM (dT : Nat → ClassId) (ah : hA) (X Y : Nat → Int32) (FC FP : Nat → Nat) (fi qa i : Nat) (FQ : Nat → Option Nat) (PT : Nat → pT) : Prop :=
  (∀ j, j < i → FQ j = some (PT j).1 ∧ plA dT ah (PT j).1 (PT j).2.1 (FC (fi + j + 1) - FC (fi + j)) (nI j) (PT j).2.2.1 (PT j).2.2.2 ∧ plD X Y FP (FC (fi + j)) (FC (fi + j + 1) - FC (fi + j)) (nI j) (PT j).2.2.2 ∧ (PT j).2.1 ≠ qa ∧ ∀ a, a < FC (fi + j + 1) - FC (fi + j) → ((PT j).2.2.2 a).1 2 ≠ qa) ∧
  ∀ j k a b, j < i → k < i → a < FC (fi + j + 1) - FC (fi + j) → b < FC (fi + k + 1) - FC (fi + k) → ((PT j).2.2.2 a).1 0 = ((PT k).2.2.2 b).1 0 → j = k
theorem mpM_0 {dT : Nat → ClassId} {ah : hA} {X Y : Nat → Int32} {FC FP : Nat → Nat} {fi qa : Nat} {FQ : Nat → Option Nat} {PT : Nat → pT} : mpM dT ah X Y FC FP fi qa 0 FQ PT := ⟨fun j hj => absurd hj (Nat.not_lt_zero _), fun j _ _ _ hj => absurd hj (Nat.not_lt_zero _)⟩
theorem plA_hup {dT : Nat → ClassId} {ah : hA} {pg ra nr a : Nat} {pp : Int32} {FR : Nat → Option Nat} {RT : Nat → rgT} {x : ClassId × vp_A} {e : va_E} (h : plA dT ah pg ra nr pp FR RT) (ha : ah a = some (.inl x)) (h1 : ra ≠ a) (h2 : ∀ j, j < nr → (RT j).1 2 ≠ a) : plA dT (hup ah a e) pg ra nr pp FR RT :=
  ⟨(hup_n (h_ne h.1 ha (by simp))).trans h.1, (hup_n h1).trans h.2.1, h.2.2.1, fun i hi => ⟨(h.2.2.2 i hi).1, rgA_hup (h.2.2.2 i hi).2 ha (h2 i hi)⟩⟩
theorem plA_ext {dT : Nat → ClassId} {ah ah' : hA} {pg ra nr : Nat} {pp : Int32} {FR : Nat → Option Nat} {RT : Nat → rgT} (hk : ext ah ah') (h : plA dT ah pg ra nr pp FR RT) : plA dT ah' pg ra nr pp FR RT := plA_k (fun a e h _ => hk a e h) h
theorem mpM_s {dT : Nat → ClassId} {ah ah2 : hA} {X Y : Nat → Int32} {FC FP : Nat → Nat} {fi qa i : Nat} {FQ : Nat → Option Nat} {PT : Nat → pT} {pg ra : Nat} {FR : Nat → Option Nat} {RT : Nat → rgT} {x : ClassId × vp_A} {e : va_E} (h : mpM dT ah X Y FC FP fi qa i FQ PT) (hq : ah qa = some (.inl x)) (hx : ext ah ah2)
    (h1 : plA dT ah2 pg ra (FC (fi + i + 1) - FC (fi + i)) (nI i) FR RT) (h2 : plD X Y FP (FC (fi + i)) (FC (fi + i + 1) - FC (fi + i)) (nI i) RT) (h3 : ah ra = none) (h4 : ∀ j, j < FC (fi + i + 1) - FC (fi + i) → ah ((RT j).1 0) = none ∧ ah ((RT j).1 2) = none) :
    mpM dT (hup ah2 qa e) X Y FC FP fi qa (i + 1) (va_up FQ i (some pg)) (va_up PT i (pg, ra, FR, RT)) := by
  have hq2 := hx _ _ hq
  have hra : ra ≠ qa := (h_fr hq h3).symm
  have hsa : ∀ j, j < FC (fi + i + 1) - FC (fi + i) → (RT j).1 2 ≠ qa := fun j hj => (h_fr hq (h4 j hj).2).symm
  refine ⟨fun j hj => ?_, fun j k a b hj hk ha hb hab => ?_⟩
  · by_cases ej : j = i
    · subst ej
      simp only [va_up, if_true]
      exact ⟨trivial, plA_hup h1 hq2 hra hsa, h2, hra, hsa⟩
    · simp only [va_up, if_neg ej]
      obtain ⟨g1, g2, g3, g4, g5⟩ := h.1 j (by omega)
      exact ⟨g1, plA_hup (plA_ext hx g2) hq2 g4 g5, g3, g4, g5⟩
  · by_cases ej : j = i
    · by_cases ek : k = i
      · omega
      · subst ej
        simp only [va_up, if_true, if_neg ek] at hab
        exact absurd hab.symm (h_fr ((h.1 k (by omega)).2.1.2.2.2 b hb).2.1 (h4 a ha).1)
    · by_cases ek : k = i
      · subst ek
        simp only [va_up, if_true, if_neg ej] at hab
        exact absurd hab (h_fr ((h.1 j (by omega)).2.1.2.2.2 a ha).2.1 (h4 b hb).1)
      · simp only [va_up, if_neg ej, if_neg ek] at hab
        exact h.2 j k a b (by omega) (by omega) ha hb hab
set_option maxHeartbeats 4000000 in
set_option maxRecDepth 100000 in
theorem c_X8_polygonsOf (l : Launch) (D : va_G) (dT : Nat → ClassId) (ah : hA) (sz : Nat) (sh : Nat) (RO RA cap : Nat → Nat) (ns nc np no rc : Nat) (f : Nat → Nat → Int32) (hs : shA dT ah sh RO RA cap (v7 ns ns ns nc np np no) f rc) (FC FP : Nat → Nat) (hV : shV ns nc np f FC FP) (si : Nat) (hsi : si < ns) (cn : Nat) (hcn : shCnt f ns si cn) (fi : Nat) (hfi : fi = shFi f ns si) : hMet l yX8_polygonsOf cX8_polygonsOf 6 (some (.array (.object "ShapeJudge$Polygon"))) ({ frames := 5, cells := (1 + 2 * cn + 3 * (FC (fi + cn) - FC fi) + 2 * (FP (FC (fi + cn)) - FP (FC fi))), slots := (3 * cn + 12 * (FC (fi + cn) - FC fi) + 13 * (FP (FC (fi + cn)) - FP (FC fi))), locals := 125 }) D dT [.ref sh, .int (nI si)] ah sz (fun r ah2 => ∃ (qa : Nat) (FQ : Nat → Option Nat) (PT : Nat → pT), r = some (.ref qa) ∧ ah2 qa = some (.inl (dT 4, cn, .inr (.inr (.inr (.inr FQ))))) ∧ mpM dT ah2 (f 4) (f 5) FC FP fi qa cn FQ PT ∧ ext ah ah2) (1 + 2 * cn + 3 * (FC (fi + cn) - FC fi) + 2 * (FP (FC (fi + cn)) - FP (FC fi))) (3 * cn + 12 * (FC (fi + cn) - FC fi) + 13 * (FP (FC (fi + cn)) - FP (FC fi))) := by
  refine h_met (by decide) (Nat.le_of_ble_eq_true rfl) ?_
  intro p e s m below meth c ls R Q args hav hR hQ hB hl hsz hw
  obtain ⟨hx, hb, hml, hr, hts, hown, hlk, hin, hK⟩ := hB
  have hown : s.vm.findClass RX8 = some m.cls := hown
  have hl : lv_has ls 6 [(0, .ref sh), (1, .int (nI si))] := hl
  have hb0 : ns ≤ cap 0 ∧ 32 ≤ cap 0 ∧ cap 0 ≤ 40000 := (hs.2.1 0 (by omega)).2.2
  have hb1 : ns ≤ cap 1 ∧ 32 ≤ cap 1 ∧ cap 1 ≤ 40000 := (hs.2.1 1 (by omega)).2.2
  have hb2 : ns ≤ cap 2 ∧ 32 ≤ cap 2 ∧ cap 2 ≤ 40000 := (hs.2.1 2 (by omega)).2.2
  have hb3 : nc ≤ cap 3 ∧ 32 ≤ cap 3 ∧ cap 3 ≤ 40000 := (hs.2.1 3 (by omega)).2.2
  have hb4 : np ≤ cap 4 ∧ 32 ≤ cap 4 ∧ cap 4 ≤ 40000 := (hs.2.1 4 (by omega)).2.2
  have hb5 : np ≤ cap 5 ∧ 32 ≤ cap 5 ∧ cap 5 ≤ 40000 := (hs.2.1 5 (by omega)).2.2
  have hb6 : no ≤ cap 6 ∧ 32 ≤ cap 6 ∧ cap 6 ≤ 40000 := (hs.2.1 6 (by omega)).2.2
  have hfl : fi + cn ≤ ns := by rw [hfi]; exact shFi_le hcn hsi
  refine lv_aload_n hx hb dX8_polygonsOf_0 rfl (lv_at hl 0 rfl) ?_
  refine lv_iload_n hx hb dX8_polygonsOf_1 rfl (lv_at hl 1 rfl) ?_
  refine h_callV (n := 1) (ci := 8) (b := sh) (As := [.int (nI si)]) (rest := []) ⟨hx, hb, hml, hown, hts⟩ hK hw (c_X8_countPolygons l D dT ah s.heap.size sh RO RA cap ns nc np no rc f hs si hsi) ko_X8_countPolygons km_X8_67 ki_X8_countPolygons ks_X8_countPolygons kn_X8 (by decide +kernel) rfl hs.1 rfl hl.1 rfl (by simp [Value.category]) dX8_polygonsOf_2 (by rw [hR]; exact ⟨rfl, rfl, Nat.le_of_ble_eq_true rfl, Nat.le_of_ble_eq_true rfl, (by dsimp only; omega), (by dsimp only; omega)⟩) (fun r_1 ah_2 H_3 L_4 st_5 hp hw hst => ?_)
  obtain ⟨cn', hr9, hc9, rfl⟩ := hp
  rw [shCnt_u hc9 hcn] at hr9
  subst hr9
  have hst : st_5 = [.int (nI cn)] := hst
  subst hst
  refine lv_istore_n (lv' := [(2, .int (nI cn)), (0, .ref sh), (1, .int (nI si))]) hx hb dX8_polygonsOf_5 rfl hl (by decide) rfl (fun ls hl => ?_)
  refine lv_aload_n hx hb dX8_polygonsOf_6 rfl (lv_at hl 1 rfl) ?_
  refine h_get (ci := 8) (v := .ref (RO 0)) (C := RX8) (T := TX8) (N := 8) hx hb hts kl_X8 hown hK hw hs.1 rfl 0 (by decide) (hts _ kf_X8_12) rfl rfl dX8_polygonsOf_7 ?_
  refine lv_iload_n hx hb dX8_polygonsOf_10 rfl (lv_at hl 2 rfl) ?_
  refine h_callV (n := 1) (ci := 6) (b := (RO 0)) (As := [.int (nI si)]) (rest := []) ⟨hx, hb, hml, hown, hts⟩ hK hw (c_X6_get l D dT ah H_3.size (RO 0) (RA 0) (cap 0) ns (f 0) (by omega) (by omega) (hs.2.1 0 (by omega)).1 (hs.2.1 0 (by omega)).2.1 (nI si)) ko_X6_get km_X8_47 ki_X6_get ks_X6_get kn_X6 (by decide +kernel) rfl (hs.2.1 0 (by omega)).1 rfl hl.1 rfl (by simp [Value.category]) dX8_polygonsOf_11 (by rw [hR]; exact ⟨rfl, rfl, Nat.le_of_ble_eq_true rfl, Nat.le_of_ble_eq_true rfl, (by dsimp only; omega), (by dsimp only; omega)⟩) (fun r_6 ah_7 H_8 L_9 st_10 hp hw hst => ?_)
  obtain ⟨rfl, rfl⟩ := hp
  have hst : st_10 = [.int (rwGet (f 0) ns (nI si))] := hst
  subst hst
  refine lv_bipush (v := 6) hx hb dX8_polygonsOf_14 (by decide) ?_
  have J_14 : ∀ (v_13 : Int32) (ls : Array Slot), lv_has ls 6 [(2, .int (nI cn)), (0, .ref sh), (1, .int (nI si))] → v_13 = (if rwGet (f 0) ns (nI si) = 6 then nI (si + 1) else nI si) → W p l e R s m args below meth c H_8 L_9 (0) (0) Q (F0 m 26 ls [.int v_13]) := by
    intro v_13 ls hl ev_13
    have hv9 : v_13 = nI fi := ev_13.trans (shFi_e hfi)
    subst hv9
    refine lv_istore_n (lv' := [(3, .int (nI fi)), (2, .int (nI cn)), (0, .ref sh), (1, .int (nI si))]) hx hb dX8_polygonsOf_26 rfl hl (by decide) rfl (fun ls hl => ?_)
    refine lv_iconst (v := 0) hx hb dX8_polygonsOf_27 (by decide) ?_
    refine lv_iload_n hx hb dX8_polygonsOf_28 rfl (lv_at hl 1 rfl) ?_
    refine va_mmax hx hb (by rw [hml]; exact hl.1.symm) hown (hts _ km_X8_70) (hts _ kt_J9_max_7cf53) (hts _ kn_J9) (hts _ ko_Math_max) (by rw [hR]; exact Nat.le_of_ble_eq_true rfl) (by rw [hR]; exact Nat.le_of_ble_eq_true rfl) (by rw [hR]; dsimp only; omega) (by rw [hR]; dsimp only; omega) dX8_polygonsOf_29 ?_
    refine lv_topi (fun t_15 et_15 => ?_)
    obtain rfl : t_15 = nI cn := et_15.trans (mx0_n (by omega))
    refine h_newq hx hb hown (hts _ kc_X8_76) hK.2.2.2.2 hK hw 4 rfl cn rfl (by omega) (by rw [hR]; dsimp only; omega) (by rw [hR]; dsimp only; omega) dX8_polygonsOf_32 (fun q_16 H_17 hqq_16 hw => ?_)
    obtain ⟨ah_18, eah_18⟩ : ∃ z9 : hA, z9 = hup ah q_16 (.inl (dT 4, cn, .inr (.inr (.inr (.inr (fun _ => none)))))) := ⟨_, rfl⟩
    have hw : hW D ah s.heap ah_18 H_17 L_9 := by rw [eah_18]; exact hw
    have hne_20 : sh ≠ q_16 := h_fr hs.1 hqq_16
    have hc_19 := (show ah_18 sh = _ from (by rw [eah_18]; exact hup_n (hne_20))).trans hs.1
    have hne_22 : RO 0 ≠ q_16 := h_fr (hs.2.1 0 (by omega)).1 hqq_16
    have hc_21 := (show ah_18 (RO 0) = _ from (by rw [eah_18]; exact hup_n (hne_22))).trans (hs.2.1 0 (by omega)).1
    have hne_24 : RA 0 ≠ q_16 := h_fr (hs.2.1 0 (by omega)).2.1 hqq_16
    have hc_23 := (show ah_18 (RA 0) = _ from (by rw [eah_18]; exact hup_n (hne_24))).trans (hs.2.1 0 (by omega)).2.1
    have hne_26 : RO 1 ≠ q_16 := h_fr (hs.2.1 1 (by omega)).1 hqq_16
    have hc_25 := (show ah_18 (RO 1) = _ from (by rw [eah_18]; exact hup_n (hne_26))).trans (hs.2.1 1 (by omega)).1
    have hne_28 : RA 1 ≠ q_16 := h_fr (hs.2.1 1 (by omega)).2.1 hqq_16
    have hc_27 := (show ah_18 (RA 1) = _ from (by rw [eah_18]; exact hup_n (hne_28))).trans (hs.2.1 1 (by omega)).2.1
    have hne_30 : RO 2 ≠ q_16 := h_fr (hs.2.1 2 (by omega)).1 hqq_16
    have hc_29 := (show ah_18 (RO 2) = _ from (by rw [eah_18]; exact hup_n (hne_30))).trans (hs.2.1 2 (by omega)).1
    have hne_32 : RA 2 ≠ q_16 := h_fr (hs.2.1 2 (by omega)).2.1 hqq_16
    have hc_31 := (show ah_18 (RA 2) = _ from (by rw [eah_18]; exact hup_n (hne_32))).trans (hs.2.1 2 (by omega)).2.1
    have hne_34 : RO 3 ≠ q_16 := h_fr (hs.2.1 3 (by omega)).1 hqq_16
    have hc_33 := (show ah_18 (RO 3) = _ from (by rw [eah_18]; exact hup_n (hne_34))).trans (hs.2.1 3 (by omega)).1
    have hne_36 : RA 3 ≠ q_16 := h_fr (hs.2.1 3 (by omega)).2.1 hqq_16
    have hc_35 := (show ah_18 (RA 3) = _ from (by rw [eah_18]; exact hup_n (hne_36))).trans (hs.2.1 3 (by omega)).2.1
    have hne_38 : RO 4 ≠ q_16 := h_fr (hs.2.1 4 (by omega)).1 hqq_16
    have hc_37 := (show ah_18 (RO 4) = _ from (by rw [eah_18]; exact hup_n (hne_38))).trans (hs.2.1 4 (by omega)).1
    have hne_40 : RA 4 ≠ q_16 := h_fr (hs.2.1 4 (by omega)).2.1 hqq_16
    have hc_39 := (show ah_18 (RA 4) = _ from (by rw [eah_18]; exact hup_n (hne_40))).trans (hs.2.1 4 (by omega)).2.1
    have hne_42 : RO 5 ≠ q_16 := h_fr (hs.2.1 5 (by omega)).1 hqq_16
    have hc_41 := (show ah_18 (RO 5) = _ from (by rw [eah_18]; exact hup_n (hne_42))).trans (hs.2.1 5 (by omega)).1
    have hne_44 : RA 5 ≠ q_16 := h_fr (hs.2.1 5 (by omega)).2.1 hqq_16
    have hc_43 := (show ah_18 (RA 5) = _ from (by rw [eah_18]; exact hup_n (hne_44))).trans (hs.2.1 5 (by omega)).2.1
    have hne_46 : RO 6 ≠ q_16 := h_fr (hs.2.1 6 (by omega)).1 hqq_16
    have hc_45 := (show ah_18 (RO 6) = _ from (by rw [eah_18]; exact hup_n (hne_46))).trans (hs.2.1 6 (by omega)).1
    have hne_48 : RA 6 ≠ q_16 := h_fr (hs.2.1 6 (by omega)).2.1 hqq_16
    have hc_47 := (show ah_18 (RA 6) = _ from (by rw [eah_18]; exact hup_n (hne_48))).trans (hs.2.1 6 (by omega)).2.1
    have hc_q_16 : ah_18 q_16 = some (.inl (dT 4, cn, .inr (.inr (.inr (.inr (fun _ => none)))))) := by rw [eah_18]; exact hup_s
    have hE35 : ext ah ah_18 := by rw [eah_18]; exact ext_new hqq_16
    have hs35 := shA_ext hE35 hs
    refine lv_astore (lv' := [(4, .ref q_16), (3, .int (nI fi)), (2, .int (nI cn)), (0, .ref sh), (1, .int (nI si))]) hx hb dX8_polygonsOf_35 hl (by decide) rfl (fun ls hl => ?_)
    refine lv_iconst (v := 0) hx hb dX8_polygonsOf_37 (by decide) ?_
    refine lv_istore (lv' := [(5, .int 0), (4, .ref q_16), (3, .int (nI fi)), (2, .int (nI cn)), (0, .ref sh), (1, .int (nI si))]) hx hb dX8_polygonsOf_38 hl (by decide) rfl (fun ls hl => ?_)
    have LP40 : ∀ (k40 : Nat) (i : Nat) (FQ : Nat → Option Nat) (PT : Nat → pT) (ah40 : hA) (ls : Array Slot) (H40 : Heap) (L40 : List Loc), (cn - i < k40) → (i ≤ cn) → (ah40 q_16 = some (.inl (dT 4, cn, .inr (.inr (.inr (.inr FQ)))))) → (shA dT ah40 sh RO RA cap (v7 ns ns ns nc np np no) f rc) → (ext ah ah40) → (mpM dT ah40 (f 4) (f 5) FC FP fi q_16 i FQ PT) → lv_has ls 6 [(5, .int (nI i)), (4, .ref q_16), (3, .int (nI fi)), (2, .int (nI cn)), (0, .ref sh), (1, .int (nI si))] → hW D ah s.heap ah40 H40 L40 → W p l e R s m args below meth c H40 L40 (1 + 2 * i + 3 * (FC (fi + i) - FC fi) + 2 * (FP (FC (fi + i)) - FP (FC fi))) (cn + 2 * i + 12 * (FC (fi + i) - FC fi) + 13 * (FP (FC (fi + i)) - FP (FC fi))) Q (F0 m 40 ls []) := by
      intro k40
      induction k40 with
      | zero => intro i FQ PT ah40 ls H40 L40 hk; exact absurd hk (Nat.not_lt_zero _)
      | succ k40 ih40 =>
        intro i FQ PT ah40 ls H40 L40 hk40 hi40 hqa40 hs40 hE40 hM40 hl hw
        have hu1 : FC fi ≤ FC (fi + i) := shV_f hV (by omega) (by omega)
        have hu2 : FC (fi + i) ≤ FC (fi + cn) := shV_f hV (by omega) (by omega)
        have hu3 : FC (fi + cn) ≤ nc := shV_c hV (by omega)
        have hu4 : FP (FC fi) ≤ FP (FC (fi + i)) := shV_m hV hu1 (by omega)
        have hu5 : FP (FC (fi + i)) ≤ FP (FC (fi + cn)) := shV_m hV hu2 hu3
        refine lv_iload hx hb dX8_polygonsOf_40 (lv_at hl 0 rfl) ?_
        refine lv_iload_n hx hb dX8_polygonsOf_42 rfl (lv_at hl 3 rfl) ?_
        refine lv_icmp_ge (tgt := 67) hx hb dX8_polygonsOf_43 (by decide) (fun c_49 => ?_) (fun c_49 => ?_)
        · skip
          have c_49 : cn ≤ i := (nI_lex (by rfl) (by rfl) (by omega) (by omega)).mp c_49
          refine lv_aload hx hb dX8_polygonsOf_67 (lv_at hl 1 rfl) ?_
          rw [hQ]
          exact h_aret hx hb hr (Or.inr ⟨_, rfl⟩) hlk hsz hw (by omega) (by omega) dX8_polygonsOf_69 ⟨q_16, FQ, PT, rfl, hqa40, (by rw [show cn = i by omega]; exact hM40), hE40⟩
        · skip
          have c_49 : ¬ (cn ≤ i) := (not_congr (nI_lex (by rfl) (by rfl) (by omega) (by omega))).mp c_49
          have hv1 : FC (fi + i) ≤ FC (fi + i + 1) := hV.2.2.2.2.1 _ (by omega)
          have hv2 : FC (fi + i + 1) ≤ FC (fi + cn) := shV_f hV (by omega) (by omega)
          have hv3 : FP (FC (fi + i)) ≤ FP (FC (fi + i + 1)) := shV_m hV hv1 (by omega)
          have hv4 : FP (FC (fi + i + 1)) ≤ FP (FC (fi + cn)) := shV_m hV hv2 (by omega)
          refine lv_aload hx hb dX8_polygonsOf_46 (lv_at hl 1 rfl) ?_
          refine lv_iload hx hb dX8_polygonsOf_48 (lv_at hl 0 rfl) ?_
          refine lv_aload_n hx hb dX8_polygonsOf_50 rfl (lv_at hl 4 rfl) ?_
          refine lv_iload_n hx hb dX8_polygonsOf_51 rfl (lv_at hl 2 rfl) ?_
          refine lv_iload hx hb dX8_polygonsOf_52 (lv_at hl 0 rfl) ?_
          refine lv_iadd hx hb dX8_polygonsOf_54 ?_
          refine lv_topi (fun t_50 et_50 => ?_)
          obtain rfl : t_50 = nI (fi + i) := et_50.trans (nI_add _ _)
          refine lv_iload hx hb dX8_polygonsOf_55 (lv_at hl 0 rfl) ?_
          refine h_callV (n := 2) (ci := 8) (b := sh) (As := [.int (nI (fi + i)), .int (nI i)]) (rest := [.int (nI i), .ref q_16]) ⟨hx, hb, hml, hown, hts⟩ hK hw (c_X8_toPolygon l D dT ah40 H40.size sh RO RA cap ns nc np no rc f hs40 FC FP hV (fi + i) (by omega) (nI i)) ko_X8_toPolygon km_X8_78 ki_X8_toPolygon ks_X8_toPolygon kn_X8 (by decide +kernel) rfl hs40.1 rfl hl.1 rfl (by simp [Value.category]) dX8_polygonsOf_57 (by rw [hR]; exact ⟨rfl, rfl, Nat.le_of_ble_eq_true rfl, Nat.le_of_ble_eq_true rfl, (by dsimp only; omega), (by dsimp only; omega)⟩) (fun r_51 ah_52 H_53 L_54 st_55 hp hw hst => ?_)
          obtain ⟨pg9, ra9, FR9, RT9, rfl, ht1, ht2, ht3, ht4, ht5⟩ := hp
          have hs2 := shA_ext ht3 hs40
          have hqa2 := ht3 _ _ hqa40
          have hst : st_55 = [.ref pg9, .int (nI i), .ref q_16] := hst
          subst hst
          refine h_aast hx hb hK hw 4 4 hqa2 rfl ht1.1 rfl i rfl (by omega) (by omega) dX8_polygonsOf_60 (fun H_56 L_57 hw => ?_)
          obtain ⟨ah_58, eah_58⟩ : ∃ z9 : hA, z9 = hup ah_52 q_16 (.inl (dT 4, cn, .inr (.inr (.inr (.inr (va_up FQ i (some pg9))))))) := ⟨_, rfl⟩
          have hw : hW D ah s.heap ah_58 H_56 L_57 := by rw [eah_58]; exact hw
          have hc_59 : ah_58 q_16 = some (.inl (dT 4, cn, .inr (.inr (.inr (.inr (va_up FQ i (some pg9))))))) := by rw [eah_58]; exact hup_s
          have hc_60 := (show ah_58 pg9 = _ from (by rw [eah_58]; exact hup_n (h_ne ht1.1 hqa2 (by simp)))).trans ht1.1
          refine lv_iinc (v := nI (i + 1)) (lv' := [(5, .int (nI (i + 1))), (4, .ref q_16), (3, .int (nI fi)), (2, .int (nI cn)), (0, .ref sh), (1, .int (nI si))]) hx hb dX8_polygonsOf_61 hl (k := 0) rfl (nI_c _ 1) (by decide) rfl (fun ls hl => ?_)
          refine lv_goto (tgt := 40) hx hb dX8_polygonsOf_64 (by decide) ?_
          refine W.widen (k := 1 + 2 * (i + 1) + 3 * (FC (fi + (i + 1)) - FC fi) + 2 * (FP (FC (fi + (i + 1))) - FP (FC fi))) (n := cn + 2 * (i + 1) + 12 * (FC (fi + (i + 1)) - FC fi) + 13 * (FP (FC (fi + (i + 1))) - FP (FC fi))) (by have h7 : FC (fi + (i + 1)) = FC (fi + i + 1) := rfl; have h8 : FP (FC (fi + (i + 1))) = FP (FC (fi + i + 1)) := rfl; omega) (by have h7 : FC (fi + (i + 1)) = FC (fi + i + 1) := rfl; have h8 : FP (FC (fi + (i + 1))) = FP (FC (fi + i + 1)) := rfl; omega) ?_
          exact ih40 (i + 1) (va_up FQ i (some pg9)) (va_up PT i (pg9, ra9, FR9, RT9)) ah_58 ls _ _ (by omega) (by omega) hc_59 (shA_kp (fun a9 e9 h9 hk9 => (show ah_58 a9 = some e9 by rw [eah_58]; exact (hup_n (shk_s h9 hk9 hqa2)).trans h9)) hs2) (fun a9 e9 h9 => by rw [eah_58]; exact (hup_n (h_fr h9 hqq_16)).trans (ht3 a9 e9 (hE40 a9 e9 h9))) (by rw [eah_58]; exact mpM_s hM40 hqa40 ht3 ht1 ht2 ht4 ht5) (lv_sub hl [0, 1, 2, 3, 4, 5] rfl) hw
    refine W.widen (k := 1 + 2 * 0 + 3 * (FC (fi + 0) - FC fi) + 2 * (FP (FC (fi + 0)) - FP (FC fi))) (n := cn + 2 * 0 + 12 * (FC (fi + 0) - FC fi) + 13 * (FP (FC (fi + 0)) - FP (FC fi))) (by simp) (by simp) ?_
    exact LP40 ((cn - 0) + 1) 0 (fun _ => none) (fun _ => pT0) ah_18 ls _ _ (Nat.lt_succ_self _) (by omega) hc_q_16 hs35 hE35 mpM_0 (lv_sub hl [0, 1, 2, 3, 4, 5] rfl) hw
  refine lv_icmp_ne (tgt := 25) hx hb dX8_polygonsOf_16 (by decide) (fun c_11 => ?_) (fun c_11 => ?_)
  · skip
    refine lv_iload_n hx hb dX8_polygonsOf_25 rfl (lv_at hl 2 rfl) ?_
    exact J_14 (nI si) ls (lv_sub hl [0, 1, 2] rfl) (by rw [if_neg c_11])
  · skip
    refine lv_iload_n hx hb dX8_polygonsOf_19 rfl (lv_at hl 2 rfl) ?_
    refine lv_iconst (v := 1) hx hb dX8_polygonsOf_20 (by decide) ?_
    refine lv_iadd hx hb dX8_polygonsOf_21 ?_
    refine lv_topi (fun t_12 et_12 => ?_)
    obtain rfl : t_12 = nI (si + 1) := et_12.trans (nI_c _ 1)
    refine lv_goto (tgt := 26) hx hb dX8_polygonsOf_22 (by decide) ?_
    exact J_14 (nI (si + 1)) ls (lv_sub hl [0, 1, 2] rfl) (by rw [if_pos c_11])

/-! ShapeJudge$Inspector.inspectSegments -/
/-- an array of rings -/
def rsA (dT : Nat → ClassId) (ah : hA) (ra nr : Nat) (FR : Nat → Option Nat) (RT : Nat → rgT) : Prop :=
  ah ra = some (.inl (dT 3, nr, .inr (.inr (.inr (.inr FR))))) ∧ nr ≤ 100000 ∧ ∀ i, i < nr → FR i = some ((RT i).1 0) ∧ rgA dT ah (RT i)
theorem rsA_j {dT : Nat → ClassId} {ah ah2 : hA} {ra nr : Nat} {FR : Nat → Option Nat} {RT : Nat → rgT} (hk : ∀ a e, ah a = some e → jg dT e → ah2 a = some e) (h : rsA dT ah ra nr FR RT) : rsA dT ah2 ra nr FR RT :=
  ⟨hk _ _ h.1 ⟨by simp, by simp, by simp⟩, h.2.1, fun i hi => ⟨(h.2.2 i hi).1, rgA_j hk (h.2.2 i hi).2⟩⟩
/-- from which segment of the j-th ring on the k-th one of the i-th ring is looked at -/
def fI (i j k : Nat) : Nat := if i = j then k + 1 else 0
theorem fI_le (i j k : Nat) : fI i j k ≤ k + 1 := by unfold fI; split <;> omega
theorem fI_e {i j k : Nat} : (if i = j then nI (k + 1) else 0) = nI (fI i j k) := by unfold fI; by_cases h : i = j <;> simp [h]; rfl
/-- the k-th segment of the i-th ring with the j-th ring -/
def cjS (fl : Bool) (shp : Int32) (pl : Nat → Int32) (RT : Nat → rgT) (i k j : Nat) : fT :=
  if j < i then none else if (!decide ((RT i).2.1 0 = (RT j).2.1 0)) = fl then fsR shp pl (RT i) (RT j) k (fI i j k) else none
theorem cjS_l {fl : Bool} {shp : Int32} {pl : Nat → Int32} {RT : Nat → rgT} {i k j : Nat} (h : j < i) : cjS fl shp pl RT i k j = none := if_pos h
theorem cjS_e {fl : Bool} {shp : Int32} {pl : Nat → Int32} {RT : Nat → rgT} {i k j : Nat} (h : fsR shp pl (RT i) (RT j) k (fI i j k) = none) : cjS fl shp pl RT i k j = none := by unfold cjS; rw [h]; simp
theorem cj_b {P : Prop} [Decidable P] {v : Int32} {fl : Bool} (hv : v = if P then 0 else 1) : v = bI fl ↔ (!decide P) = fl := by
  rw [hv]; by_cases h : P <;> cases fl <;> simp [h, bI_t, bI_f]
theorem cjS_n {fl : Bool} {shp : Int32} {pl : Nat → Int32} {RT : Nat → rgT} {i k j : Nat} {v : Int32} (hv : v = if (RT i).2.1 0 = (RT j).2.1 0 then 0 else 1) (h : ¬ v = bI fl) : cjS fl shp pl RT i k j = none := by
  unfold cjS; rw [if_neg (fun q => h ((cj_b hv).mpr q))]; simp
theorem cjS_s {fl : Bool} {shp : Int32} {pl : Nat → Int32} {RT : Nat → rgT} {i k j : Nat} {v : Int32} {q : Int32 × (Nat → Int32)} (hij : i ≤ j) (hv : v = if (RT i).2.1 0 = (RT j).2.1 0 then 0 else 1) (h : v = bI fl) (hf : fsR shp pl (RT i) (RT j) k (fI i j k) = some q) : cjS fl shp pl RT i k j = some q := by
  unfold cjS; rw [if_neg (by omega), if_pos ((cj_b hv).mp h)]; exact hf
/-- all segments of the i-th ring -/
def ciS (fl : Bool) (shp : Int32) (pl : Nat → Int32) (nr : Nat) (RT : Nat → rgT) (i : Nat) : fT := firstO ((RT i).1 4) (fun k => firstO nr (cjS fl shp pl RT i k))
set_option maxHeartbeats 4000000 in
set_option maxRecDepth 100000 in
theorem c_X2_inspectSegments (l : Launch) (D : va_G) (dT : Nat → ClassId) (ah : hA) (sz : Nat) (ins sh fd pa mt : Nat) (shp wh : Int32) (pl : Nat → Int32) (mx my : Int32) (hi9 : inA dT ah ins sh fd pa mt shp wh pl mx my) (ra nr : Nat) (FR : Nat → Option Nat) (RT : Nat → rgT) (hr9 : rsA dT ah ra nr FR RT) (hn2 : ∀ i, i < nr → 2 ≤ (RT i).1 4) (fl : Bool) : hMet l yX2_inspectSegments cX2_inspectSegments 9 (some .boolean) ({ frames := 5, cells := 0, slots := 0, locals := 128 }) D dT [.ref ins, .ref ra, .int (bI fl)] ah sz (fun r ah2 => ∃ (b : Bool) (wh2 : Int32) (pl2 : Nat → Int32) (mx2 my2 : Int32), r = some (.int (bI b)) ∧ inA dT ah2 ins sh fd pa mt shp wh2 pl2 mx2 my2 ∧ inK ah ah2 fd pa mt ∧ inR (firstO nr (ciS fl shp pl nr RT)) wh pl b wh2 pl2) 0 0 := by
  refine h_met (by decide) (Nat.le_of_ble_eq_true rfl) ?_
  intro p e s m below meth c ls R Q args hav hR hQ hB hl hsz hw
  obtain ⟨hx, hb, hml, hr, hts, hown, hlk, hin, hK⟩ := hB
  have hown : s.vm.findClass RX2 = some m.cls := hown
  have hl : lv_has ls 9 [(0, .ref ins), (1, .ref ra), (2, .int (bI fl))] := hl
  refine lv_iconst (v := 0) hx hb dX2_inspectSegments_0 (by decide) ?_
  refine lv_istore_n (lv' := [(3, .int 0), (0, .ref ins), (1, .ref ra), (2, .int (bI fl))]) hx hb dX2_inspectSegments_1 rfl hl (by decide) rfl (fun ls hl => ?_)
  have LP2 : ∀ (k2 : Nat) (i : Nat) (mx2 : Int32) (my2 : Int32) (ah2 : hA) (ls : Array Slot) (H2 : Heap) (L2 : List Loc), (nr - i < k2) → (i ≤ nr) → (inA dT ah2 ins sh fd pa mt shp wh pl mx2 my2) → (inK ah ah2 fd pa mt) → (∀ j, j < i → ciS fl shp pl nr RT j = none) → lv_has ls 9 [(3, .int (nI i)), (0, .ref ins), (1, .ref ra), (2, .int (bI fl))] → hW D ah s.heap ah2 H2 L2 → W p l e R s m args below meth c H2 L2 (0) (0) Q (F0 m 2 ls []) := by
    intro k2
    induction k2 with
    | zero => intro i mx2 my2 ah2 ls H2 L2 hk; exact absurd hk (Nat.not_lt_zero _)
    | succ k2 ih2 =>
      intro i mx2 my2 ah2 ls H2 L2 hk2 hi hi2 hK2 hpv hl hw
      have hr2 := rsA_j (fun a e h hj => inK_j hi9 hK2 h hj) hr9
      have hnr2 := hr2.2.1
      refine lv_iload_n hx hb dX2_inspectSegments_2 rfl (lv_at hl 0 rfl) ?_
      refine lv_aload_n hx hb dX2_inspectSegments_3 rfl (lv_at hl 2 rfl) ?_
      refine h_alen hx hb hK hw 3 rfl hr2.1 dX2_inspectSegments_4 ?_
      refine lv_icmp_ge (tgt := 121) hx hb dX2_inspectSegments_5 (by decide) (fun c_1 => ?_) (fun c_1 => ?_)
      · skip
        have c_1 : nr ≤ i := (nI_lex (by rfl) (by rfl) (by omega) (by omega)).mp c_1
        refine lv_iconst (v := 0) hx hb dX2_inspectSegments_121 (by decide) ?_
        rw [hQ]
        exact h_zret hx hb hr hlk hsz hw (by simp) (by simp) dX2_inspectSegments_122 (by decide) ⟨false, _, _, _, _, rfl, ⟨hi2.1, hi2.2.1, hi2.2.2.1, hi2.2.2.2⟩, (fun a e9 h1 h2 h3 h4 => (by have g9_0 : ah2 a = some e9 := hK2 a e9 h1 h2 h3 h4; exact g9_0)), (by rw [show firstO nr (ciS fl shp pl nr RT) = none from firstO_none (fun j hj => hpv j (by omega))]; exact ⟨rfl, rfl, rfl⟩)⟩
      · skip
        have c_1 : ¬ (nr ≤ i) := (not_congr (nI_lex (by rfl) (by rfl) (by omega) (by omega))).mp c_1
        refine lv_aload_n hx hb dX2_inspectSegments_8 rfl (lv_at hl 2 rfl) ?_
        refine lv_iload_n hx hb dX2_inspectSegments_9 rfl (lv_at hl 0 rfl) ?_
        obtain ⟨hr_2_f, hr_2_g⟩ := hr2.2.2 i (by omega)
        refine h_aald hx hb hK hw 3 rfl hr2.1 i rfl (by omega) (by omega) (hr2.2.2 i (by omega)).1 dX2_inspectSegments_10 ?_
        refine lv_astore (lv' := [(4, .ref ((RT i).1 0)), (3, .int (nI i)), (0, .ref ins), (1, .ref ra), (2, .int (bI fl))]) hx hb dX2_inspectSegments_11 hl (by decide) rfl (fun ls hl => ?_)
        refine lv_iconst (v := 0) hx hb dX2_inspectSegments_13 (by decide) ?_
        refine lv_istore (lv' := [(5, .int 0), (4, .ref ((RT i).1 0)), (3, .int (nI i)), (0, .ref ins), (1, .ref ra), (2, .int (bI fl))]) hx hb dX2_inspectSegments_14 hl (by decide) rfl (fun ls hl => ?_)
        have LP16 : ∀ (k16 : Nat) (k : Nat) (mx16 : Int32) (my16 : Int32) (ah16 : hA) (ls : Array Slot) (H16 : Heap) (L16 : List Loc), ((RT i).1 4 - k < k16) → (k ≤ (RT i).1 4) → (inA dT ah16 ins sh fd pa mt shp wh pl mx16 my16) → (inK ah ah16 fd pa mt) → (∀ j, j < k → firstO nr (cjS fl shp pl RT i j) = none) → lv_has ls 9 [(5, .int (nI k)), (4, .ref ((RT i).1 0)), (3, .int (nI i)), (0, .ref ins), (1, .ref ra), (2, .int (bI fl))] → hW D ah s.heap ah16 H16 L16 → W p l e R s m args below meth c H16 L16 (0) (0) Q (F0 m 16 ls []) := by
          intro k16
          induction k16 with
          | zero => intro k mx16 my16 ah16 ls H16 L16 hk; exact absurd hk (Nat.not_lt_zero _)
          | succ k16 ih16 =>
            intro k mx16 my16 ah16 ls H16 L16 hk16 hk hi16 hK16 hpw hl hw
            have hr16 := rsA_j (fun a e h hj => inK_j hi9 hK16 h hj) hr9
            have hnr16 := hr16.2.1
            have hri16 := (hr16.2.2 i (by omega)).2
            have hcc16 : (RT i).1 4 ≤ (RT i).1 3 ∧ (RT i).1 3 ≤ 100000 := ⟨hri16.2.2.2.1, hri16.2.2.2.2.1⟩
            refine lv_iload hx hb dX2_inspectSegments_16 (lv_at hl 0 rfl) ?_
            refine lv_aload hx hb dX2_inspectSegments_18 (lv_at hl 1 rfl) ?_
            refine h_getN (ci := 5) (v := .int (nI ((RT i).1 4))) (C := RX5) (T := TX5) (N := 7) hx hb hts kl_X5 hown hK hw hri16.1 rfl 4 (by decide) (va_Nw.use rfl (hK.2.1 _ (List.mem_of_getElem? (i := 11) rfl))) rfl rfl dX2_inspectSegments_20 ?_
            refine lv_icmp_ge (tgt := 115) hx hb dX2_inspectSegments_23 (by decide) (fun c_3 => ?_) (fun c_3 => ?_)
            · skip
              have c_3 : (RT i).1 4 ≤ k := (nI_lex (by rfl) (by rfl) (by omega) (by omega)).mp c_3
              refine lv_iinc (v := nI (i + 1)) (lv' := [(3, .int (nI (i + 1))), (5, .int (nI k)), (4, .ref ((RT i).1 0)), (0, .ref ins), (1, .ref ra), (2, .int (bI fl))]) hx hb dX2_inspectSegments_115 hl (k := 2) rfl (nI_c _ 1) (by decide) rfl (fun ls hl => ?_)
              refine lv_goto (tgt := 2) hx hb dX2_inspectSegments_118 (by decide) ?_
              exact ih2 (i + 1) mx16 my16 ah16 ls _ _ (by omega) (by omega) hi16 hK16 (lt_o hpv (firstO_none (fun j hj => hpw j (by omega)))) (lv_sub hl [0, 3, 4, 5] rfl) hw
            · skip
              have c_3 : ¬ ((RT i).1 4 ≤ k) := (not_congr (nI_lex (by rfl) (by rfl) (by omega) (by omega))).mp c_3
              refine lv_iload_n hx hb dX2_inspectSegments_26 rfl (lv_at hl 2 rfl) ?_
              refine lv_istore (lv' := [(6, .int (nI i)), (5, .int (nI k)), (4, .ref ((RT i).1 0)), (3, .int (nI i)), (0, .ref ins), (1, .ref ra), (2, .int (bI fl))]) hx hb dX2_inspectSegments_27 hl (by decide) rfl (fun ls hl => ?_)
              have LP29 : ∀ (k29 : Nat) (j : Nat) (mx29 : Int32) (my29 : Int32) (ah29 : hA) (ls : Array Slot) (H29 : Heap) (L29 : List Loc), (nr - j < k29) → (i ≤ j ∧ j ≤ nr) → (inA dT ah29 ins sh fd pa mt shp wh pl mx29 my29) → (inK ah ah29 fd pa mt) → (∀ q, q < j → cjS fl shp pl RT i k q = none) → lv_has ls 9 [(6, .int (nI j)), (5, .int (nI k)), (4, .ref ((RT i).1 0)), (3, .int (nI i)), (0, .ref ins), (1, .ref ra), (2, .int (bI fl))] → hW D ah s.heap ah29 H29 L29 → W p l e R s m args below meth c H29 L29 (0) (0) Q (F0 m 29 ls []) := by
                intro k29
                induction k29 with
                | zero => intro j mx29 my29 ah29 ls H29 L29 hk; exact absurd hk (Nat.not_lt_zero _)
                | succ k29 ih29 =>
                  intro j mx29 my29 ah29 ls H29 L29 hk29 hj hi29 hK29 hpx hl hw
                  have hr29 := rsA_j (fun a e h hj => inK_j hi9 hK29 h hj) hr9
                  have hnr29 := hr29.2.1
                  have hri29 := (hr29.2.2 i (by omega)).2
                  have hcc29 : (RT i).1 4 ≤ (RT i).1 3 ∧ (RT i).1 3 ≤ 100000 := ⟨hri29.2.2.2.1, hri29.2.2.2.2.1⟩
                  refine lv_iload hx hb dX2_inspectSegments_29 (lv_at hl 0 rfl) ?_
                  refine lv_aload_n hx hb dX2_inspectSegments_31 rfl (lv_at hl 5 rfl) ?_
                  refine h_alen hx hb hK hw 3 rfl hr29.1 dX2_inspectSegments_32 ?_
                  refine lv_icmp_ge (tgt := 109) hx hb dX2_inspectSegments_33 (by decide) (fun c_5 => ?_) (fun c_5 => ?_)
                  · skip
                    have c_5 : nr ≤ j := (nI_lex (by rfl) (by rfl) (by omega) (by omega)).mp c_5
                    refine lv_iinc (v := nI (k + 1)) (lv' := [(5, .int (nI (k + 1))), (6, .int (nI j)), (4, .ref ((RT i).1 0)), (3, .int (nI i)), (0, .ref ins), (1, .ref ra), (2, .int (bI fl))]) hx hb dX2_inspectSegments_109 hl (k := 1) rfl (nI_c _ 1) (by decide) rfl (fun ls hl => ?_)
                    refine lv_goto (tgt := 16) hx hb dX2_inspectSegments_112 (by decide) ?_
                    exact ih16 (k + 1) mx29 my29 ah29 ls _ _ (by omega) (by omega) hi29 hK29 (lt_o hpw (firstO_none (fun j hj => hpx j (by omega)))) (lv_sub hl [0, 2, 3, 4, 5, 6] rfl) hw
                  · skip
                    have c_5 : ¬ (nr ≤ j) := (not_congr (nI_lex (by rfl) (by rfl) (by omega) (by omega))).mp c_5
                    refine lv_aload hx hb dX2_inspectSegments_36 (lv_at hl 2 rfl) ?_
                    refine h_getN (ci := 5) (v := .int ((RT i).2.1 0)) (C := RX5) (T := TX5) (N := 7) hx hb hts kl_X5 hown hK hw hri29.1 rfl 0 (by decide) (va_Nw.use rfl (hK.2.1 _ (List.mem_of_getElem? (i := 4) rfl))) rfl rfl dX2_inspectSegments_38 ?_
                    refine lv_aload_n hx hb dX2_inspectSegments_41 rfl (lv_at hl 5 rfl) ?_
                    refine lv_iload hx hb dX2_inspectSegments_42 (lv_at hl 0 rfl) ?_
                    obtain ⟨hr_7_f, hr_7_g⟩ := hr29.2.2 j (by omega)
                    refine h_aald hx hb hK hw 3 rfl hr29.1 j rfl (by omega) (by omega) (hr29.2.2 j (by omega)).1 dX2_inspectSegments_44 ?_
                    refine h_getN (ci := 5) (v := .int ((RT j).2.1 0)) (C := RX5) (T := TX5) (N := 7) hx hb hts kl_X5 hown hK hw hr_7_g.1 rfl 0 (by decide) (va_Nw.use rfl (hK.2.1 _ (List.mem_of_getElem? (i := 4) rfl))) rfl rfl dX2_inspectSegments_45 ?_
                    have J_10 : ∀ (v_9 : Int32) (ls : Array Slot), lv_has ls 9 [(6, .int (nI j)), (5, .int (nI k)), (4, .ref ((RT i).1 0)), (3, .int (nI i)), (0, .ref ins), (1, .ref ra), (2, .int (bI fl))] → v_9 = (if (RT i).2.1 0 = (RT j).2.1 0 then 0 else 1) → W p l e R s m args below meth c H29 L29 (0) (0) Q (F0 m 56 ls [.int v_9]) := by
                      intro v_9 ls hl ev_9
                      refine lv_istore (lv' := [(7, .int v_9), (6, .int (nI j)), (5, .int (nI k)), (4, .ref ((RT i).1 0)), (3, .int (nI i)), (0, .ref ins), (1, .ref ra), (2, .int (bI fl))]) hx hb dX2_inspectSegments_56 hl (by decide) rfl (fun ls hl => ?_)
                      refine lv_iload_n hx hb dX2_inspectSegments_58 rfl (lv_at hl 4 rfl) ?_
                      refine lv_iload hx hb dX2_inspectSegments_59 (lv_at hl 1 rfl) ?_
                      have J_14 : ∀ (v_13 : Int32) (ls : Array Slot), lv_has ls 9 [(7, .int v_9), (6, .int (nI j)), (5, .int (nI k)), (4, .ref ((RT i).1 0)), (3, .int (nI i)), (0, .ref ins), (1, .ref ra), (2, .int (bI fl))] → v_13 = (if i = j then nI (k + 1) else 0) → W p l e R s m args below meth c H29 L29 (0) (0) Q (F0 m 72 ls [.int v_13]) := by
                        intro v_13 ls hl ev_13
                        have hv9 : v_13 = nI (fI i j k) := ev_13.trans fI_e
                        subst hv9
                        refine lv_istore (lv' := [(8, .int (nI (fI i j k))), (7, .int v_9), (6, .int (nI j)), (5, .int (nI k)), (4, .ref ((RT i).1 0)), (3, .int (nI i)), (0, .ref ins), (1, .ref ra), (2, .int (bI fl))]) hx hb dX2_inspectSegments_72 hl (by decide) rfl (fun ls hl => ?_)
                        refine lv_iload hx hb dX2_inspectSegments_74 (lv_at hl 1 rfl) ?_
                        refine lv_iload_n hx hb dX2_inspectSegments_76 rfl (lv_at hl 8 rfl) ?_
                        refine lv_icmp_ne (tgt := 103) hx hb dX2_inspectSegments_77 (by decide) (fun c_15 => ?_) (fun c_15 => ?_)
                        · skip
                          refine lv_iinc (v := nI (j + 1)) (lv' := [(6, .int (nI (j + 1))), (8, .int (nI (fI i j k))), (7, .int v_9), (5, .int (nI k)), (4, .ref ((RT i).1 0)), (3, .int (nI i)), (0, .ref ins), (1, .ref ra), (2, .int (bI fl))]) hx hb dX2_inspectSegments_103 hl (k := 2) rfl (nI_c _ 1) (by decide) rfl (fun ls hl => ?_)
                          refine lv_goto (tgt := 29) hx hb dX2_inspectSegments_106 (by decide) ?_
                          exact ih29 (j + 1) mx29 my29 ah29 ls _ _ (by omega) (by omega) hi29 hK29 (lt_o hpx (cjS_n ev_9 c_15)) (lv_sub hl [0, 3, 4, 5, 6, 7, 8] rfl) hw
                        · skip
                          refine lv_aload_n hx hb dX2_inspectSegments_80 rfl (lv_at hl 6 rfl) ?_
                          refine lv_aload hx hb dX2_inspectSegments_81 (lv_at hl 4 rfl) ?_
                          refine h_getN (ci := 5) (v := .ref ((RT i).1 2)) (C := RX5) (T := TX5) (N := 7) hx hb hts kl_X5 hown hK hw hri29.1 rfl 3 (by decide) (va_Nw.use rfl (hK.2.1 _ (List.mem_of_getElem? (i := 9) rfl))) rfl rfl dX2_inspectSegments_83 ?_
                          refine lv_iload hx hb dX2_inspectSegments_86 (lv_at hl 3 rfl) ?_
                          obtain ⟨hs_17_g, hs_17_b⟩ := rgA_sg hri29 (hn2 i (by omega)) (i := k) (by omega)
                          refine h_aald hx hb hK hw 2 rfl hri29.2.2.1 k rfl (by omega) (by omega) (hri29.2.2.2.2.2 k (by omega)).1 dX2_inspectSegments_88 ?_
                          refine lv_aload_n hx hb dX2_inspectSegments_89 rfl (lv_at hl 7 rfl) ?_
                          refine lv_iload hx hb dX2_inspectSegments_90 (lv_at hl 2 rfl) ?_
                          refine h_aald hx hb hK hw 3 rfl hr29.1 j rfl (by omega) (by omega) (hr29.2.2 j (by omega)).1 dX2_inspectSegments_92 ?_
                          refine lv_iload hx hb dX2_inspectSegments_93 (lv_at hl 0 rfl) ?_
                          refine h_callV (n := 3) (ci := 2) (b := ins) (As := [.ref (tG (RT i) k), .ref ((RT j).1 0), .int (nI (fI i j k))]) (rest := []) ⟨hx, hb, hml, hown, hts⟩ hK hw (c_X2_inspectSegment l D dT ah29 H29.size ins sh fd pa mt shp wh pl mx29 my29 hi29 (RT i) (RT j) k (fI i j k) (hr29.2.2 i (by omega)).2 (hr29.2.2 j (by omega)).2 (hn2 i (by omega)) (hn2 j (by omega)) (by omega) (by have := fI_le i j k; omega)) ko_X2_inspectSegment km_X2_107 ki_X2_inspectSegment ks_X2_inspectSegment kn_X2 (by decide +kernel) rfl hi29.1 rfl hl.1 rfl (by simp [Value.category]) dX2_inspectSegments_95 (by rw [hR]; exact ⟨rfl, rfl, Nat.le_of_ble_eq_true rfl, Nat.le_of_ble_eq_true rfl, by simp, by simp⟩) (fun r_18 ah_19 H_20 L_21 st_22 hp hw hst => ?_)
                          obtain ⟨bz, whz, plz, mxz, myz, rfl, hiz, hKz, hRz⟩ := hp
                          have hst : st_22 = [.int (bI bz)] := hst
                          subst hst
                          refine lv_if_eq (tgt := 103) hx hb dX2_inspectSegments_98 (by decide) (fun c_23 => ?_) (fun c_23 => ?_)
                          · skip
                            have c_23 : bz = false := bI_0.mp c_23
                            obtain ⟨hz9, rfl, rfl⟩ := inR_f hRz c_23
                            refine lv_iinc (v := nI (j + 1)) (lv' := [(6, .int (nI (j + 1))), (8, .int (nI (fI i j k))), (7, .int v_9), (5, .int (nI k)), (4, .ref ((RT i).1 0)), (3, .int (nI i)), (0, .ref ins), (1, .ref ra), (2, .int (bI fl))]) hx hb dX2_inspectSegments_103 hl (k := 2) rfl (nI_c _ 1) (by decide) rfl (fun ls hl => ?_)
                            refine lv_goto (tgt := 29) hx hb dX2_inspectSegments_106 (by decide) ?_
                            exact ih29 (j + 1) mxz myz ah_19 ls _ _ (by omega) (by omega) hiz (inK_t hK29 hKz) (lt_o hpx (cjS_e hz9)) (lv_sub hl [0, 3, 4, 5, 6, 7, 8] rfl) hw
                          · skip
                            have c_23 : ¬ (bz = false) := (not_congr bI_0).mp c_23
                            refine lv_iconst (v := 1) hx hb dX2_inspectSegments_101 (by decide) ?_
                            rw [hQ]
                            exact h_zret hx hb hr hlk hsz hw (by simp) (by simp) dX2_inspectSegments_102 (by decide) ⟨true, _, _, _, _, rfl, ⟨hiz.1, hiz.2.1, hiz.2.2.1, hiz.2.2.2⟩, (fun a e9 h1 h2 h3 h4 => (by have g9_0 : ah29 a = some e9 := hK29 a e9 h1 h2 h3 h4; have g9_1 : ah_19 a = some e9 := hKz a e9 g9_0 h2 h3 h4; exact g9_1)), (by rw [show firstO nr (ciS fl shp pl nr RT) = some (whz, plz) from firstO_some (i := i) (by omega) (firstO_some (i := k) (by omega) (firstO_some (i := j) (by omega) (cjS_s hj.1 ev_9 c_15 (inR_t hRz c_23)) hpx) hpw) hpv]; exact ⟨rfl, rfl, rfl⟩)⟩
                      refine lv_icmp_ne (tgt := 71) hx hb dX2_inspectSegments_61 (by decide) (fun c_11 => ?_) (fun c_11 => ?_)
                      · skip
                        have c_11 : ¬ (i = j) := (not_congr (nI_eqx (by rfl) (by rfl) (by omega) (by omega))).mp c_11
                        refine lv_iconst (v := 0) hx hb dX2_inspectSegments_71 (by decide) ?_
                        exact J_14 0 ls (lv_sub hl [0, 1, 2, 3, 4, 5, 6, 7] rfl) (by rw [if_neg c_11])
                      · skip
                        have c_11 : i = j := (nI_eqx (by rfl) (by rfl) (by omega) (by omega)).mp c_11
                        refine lv_iload hx hb dX2_inspectSegments_64 (lv_at hl 2 rfl) ?_
                        refine lv_iconst (v := 1) hx hb dX2_inspectSegments_66 (by decide) ?_
                        refine lv_iadd hx hb dX2_inspectSegments_67 ?_
                        refine lv_topi (fun t_12 et_12 => ?_)
                        obtain rfl : t_12 = nI (k + 1) := et_12.trans (nI_c _ 1)
                        refine lv_goto (tgt := 72) hx hb dX2_inspectSegments_68 (by decide) ?_
                        exact J_14 (nI (k + 1)) ls (lv_sub hl [0, 1, 2, 3, 4, 5, 6, 7] rfl) (by rw [if_pos c_11])
                    refine lv_icmp_eq (tgt := 55) hx hb dX2_inspectSegments_48 (by decide) (fun c_8 => ?_) (fun c_8 => ?_)
                    · skip
                      refine lv_iconst (v := 0) hx hb dX2_inspectSegments_55 (by decide) ?_
                      exact J_10 0 ls (lv_sub hl [0, 1, 2, 3, 4, 5, 6] rfl) (by rw [if_pos c_8])
                    · skip
                      refine lv_iconst (v := 1) hx hb dX2_inspectSegments_51 (by decide) ?_
                      refine lv_goto (tgt := 56) hx hb dX2_inspectSegments_52 (by decide) ?_
                      exact J_10 1 ls (lv_sub hl [0, 1, 2, 3, 4, 5, 6] rfl) (by rw [if_neg c_8])
              exact LP29 ((nr - i) + 1) i mx16 my16 ah16 ls _ _ (Nat.lt_succ_self _) (by omega) hi16 hK16 (fun q hq => cjS_l hq) (lv_sub hl [0, 1, 2, 3, 4, 5, 6] rfl) hw
        exact LP16 (((RT i).1 4 - 0) + 1) 0 mx2 my2 ah2 ls _ _ (Nat.lt_succ_self _) (by omega) hi2 hK2 (fun j hj => absurd hj (Nat.not_lt_zero _)) (lv_sub hl [0, 1, 2, 3, 4, 5] rfl) hw
  exact LP2 ((nr - 0) + 1) 0 mx my ah ls _ _ (Nat.lt_succ_self _) (by omega) hi9 inK_r (fun j hj => absurd hj (Nat.not_lt_zero _)) (lv_sub hl [0, 1, 2, 3] rfl) hw

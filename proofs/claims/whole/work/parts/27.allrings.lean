/-! ShapeJudge$Inspector.allRings -/
theorem ofM {OF NR : Nat → Nat} {cn : Nat} (hO : ∀ j, j < cn → OF (j + 1) = OF j + NR j) {a b : Nat} (hab : a ≤ b) (hb : b ≤ cn) : OF a ≤ OF b := up_mono (fun k hk => by rw [hO k hk]; omega) hab hb
theorem mpA_ext {dT : Nat → ClassId} {ah ah' : hA} {qa cn : Nat} {FQ : Nat → Option Nat} {PT : Nat → pT} {NR : Nat → Nat} {PP : Nat → Int32} (hx : ext ah ah') (h : mpA dT ah qa cn FQ PT NR PP) : mpA dT ah' qa cn FQ PT NR PP := ⟨hx _ _ h.1, fun j hj => ⟨(h.2 j hj).1, plA_ext hx (h.2 j hj).2⟩⟩
/-- the rings of the first i parts, and the first b of the next one, stand in a row -/
def arD (dT : Nat → ClassId) (ah : hA) (OF NR : Nat → Nat) (PT : Nat → pT) (i b a : Nat) (FA : Nat → Option Nat) (RTA : Nat → rgT) : Prop :=
  (∀ c, c < a → FA c = some ((RTA c).1 0) ∧ rgA dT ah (RTA c)) ∧ ∀ j q, (j < i ∧ q < NR j ∨ j = i ∧ q < b) → RTA (OF j + q) = (PT j).2.2.2 q
theorem arD_0 {dT : Nat → ClassId} {ah : hA} {OF NR : Nat → Nat} {PT : Nat → pT} {FA : Nat → Option Nat} {RTA : Nat → rgT} : arD dT ah OF NR PT 0 0 0 FA RTA := ⟨fun c hc => absurd hc (Nat.not_lt_zero _), fun j q h => by omega⟩
theorem arD_r {dT : Nat → ClassId} {ah : hA} {OF NR : Nat → Nat} {PT : Nat → pT} {i b a : Nat} {FA : Nat → Option Nat} {RTA : Nat → rgT} (h : arD dT ah OF NR PT i b a FA RTA) (hb : b = NR i) : arD dT ah OF NR PT (i + 1) 0 a FA RTA :=
  ⟨h.1, fun j q hq => h.2 j q (by
    by_cases e : j = i
    · subst e; omega
    · omega)⟩
theorem arD_s {dT : Nat → ClassId} {ah : hA} {OF NR : Nat → Nat} {PT : Nat → pT} {i b a cn : Nat} {FA : Nat → Option Nat} {RTA : Nat → rgT} {pg ra : Nat} {pp : Int32} {FR : Nat → Option Nat} (h : arD dT ah OF NR PT i b a FA RTA) (ha : a = OF i + b) (hO : ∀ j, j < cn → OF (j + 1) = OF j + NR j) (hi : i < cn) (hp : plA dT ah pg ra (NR i) pp FR (PT i).2.2.2) (hb : b < NR i) :
    arD dT ah OF NR PT i (b + 1) (a + 1) (va_up FA a (some (((PT i).2.2.2 b).1 0))) (va_up RTA a ((PT i).2.2.2 b)) := by
  refine ⟨fun c hc => ?_, fun j q hq => ?_⟩
  · by_cases e : c = a
    · subst e; simp only [va_up, if_true]; exact ⟨trivial, (hp.2.2.2 b hb).2⟩
    · simp only [va_up, if_neg e]; exact h.1 c (by omega)
  · by_cases e : j = i ∧ q = b
    · obtain ⟨rfl, rfl⟩ := e
      rw [← ha]; simp [va_up]
    · have hne : OF j + q ≠ a := by
        by_cases ej : j = i
        · subst ej; omega
        · have h1 := hO j (by omega)
          have h2 : OF (j + 1) ≤ OF i := ofM hO (by omega) (by omega)
          omega
      simp only [va_up, if_neg hne]
      exact h.2 j q (by omega)
set_option maxHeartbeats 4000000 in
set_option maxRecDepth 100000 in
theorem c_X2_allRings (l : Launch) (D : va_G) (dT : Nat → ClassId) (ah : hA) (sz : Nat) (qa cn : Nat) (FQ : Nat → Option Nat) (PT : Nat → pT) (NR : Nat → Nat) (PP : Nat → Int32) (hcn9 : cn ≤ 100000) (hmp : mpA dT ah qa cn FQ PT NR PP) (OF : Nat → Nat) (hO0 : OF 0 = 0) (hO : ∀ j, j < cn → OF (j + 1) = OF j + NR j) (hOn : OF cn ≤ 100000) : hMet l yX2_allRings cX2_allRings 7 (some (.array (.object "ShapeJudge$Ring"))) ({ frames := 0, cells := 1, slots := (OF cn), locals := 0 }) D dT [.ref qa] ah sz (fun r ah2 => ∃ (q : Nat) (FA : Nat → Option Nat) (RTA : Nat → rgT), r = some (.ref q) ∧ rsA dT ah2 q (OF cn) FA RTA ∧ (∀ j, j < cn → ∀ b, b < NR j → RTA (OF j + b) = (PT j).2.2.2 b) ∧ ext ah ah2) 1 (OF cn) := by
  refine h_met (by decide) (Nat.le_of_ble_eq_true rfl) ?_
  intro p e s m below meth c ls R Q args hav hR hQ hB hl hsz hw
  obtain ⟨hx, hb, hml, hr, hts, hown, hlk, hin, hK⟩ := hB
  have hown : s.vm.findClass RX2 = some m.cls := hown
  have hl : lv_has ls 7 [(0, .ref qa)] := hl
  refine lv_iconst (v := 0) hx hb dX2_allRings_0 (by decide) ?_
  refine lv_istore_n (lv' := [(1, .int 0), (0, .ref qa)]) hx hb dX2_allRings_1 rfl hl (by decide) rfl (fun ls hl => ?_)
  refine lv_iconst (v := 0) hx hb dX2_allRings_2 (by decide) ?_
  refine lv_istore_n (lv' := [(2, .int 0), (1, .int 0), (0, .ref qa)]) hx hb dX2_allRings_3 rfl hl (by decide) rfl (fun ls hl => ?_)
  have LP4 : ∀ (k4 : Nat) (i : Nat) (c9 : Nat) (ls : Array Slot) (H4 : Heap) (L4 : List Loc), (cn - i < k4) → (i ≤ cn) → (c9 = OF i) → lv_has ls 7 [(2, .int (nI i)), (1, .int (nI c9)), (0, .ref qa)] → hW D ah s.heap ah H4 L4 → W p l e R s m args below meth c H4 L4 (0) (0) Q (F0 m 4 ls []) := by
    intro k4
    induction k4 with
    | zero => intro i c9 ls H4 L4 hk; exact absurd hk (Nat.not_lt_zero _)
    | succ k4 ih4 =>
      intro i c9 ls H4 L4 hk4 hi4 hc4 hl hw
      have hmo4 : i < cn → OF i + NR i ≤ OF cn := fun h9 => by rw [← hO i h9]; exact ofM hO (by omega) (by omega)
      have hmo5 : OF i ≤ OF cn := ofM hO (by omega) (by omega)
      refine lv_iload_n hx hb dX2_allRings_4 rfl (lv_at hl 0 rfl) ?_
      refine lv_aload_n hx hb dX2_allRings_5 rfl (lv_at hl 2 rfl) ?_
      refine h_alen hx hb hK hw 4 rfl hmp.1 dX2_allRings_6 ?_
      refine lv_icmp_ge (tgt := 26) hx hb dX2_allRings_7 (by decide) (fun c_1 => ?_) (fun c_1 => ?_)
      · skip
        have c_1 : cn ≤ i := (nI_lex (by rfl) (by rfl) (by omega) (by omega)).mp c_1
        have hcc9 : c9 = OF cn := by rw [hc4, show i = cn by omega]
        refine lv_iload_n hx hb dX2_allRings_26 rfl (lv_at hl 1 rfl) ?_
        refine h_newq hx hb hown (hts _ kc_X2_83) hK.2.2.2.1 hK hw 3 rfl c9 rfl (by omega) (by rw [hR]; simp) (by rw [hR]; simp; omega) dX2_allRings_27 (fun q_2 H_3 hqq_2 hw => ?_)
        obtain ⟨ah_4, eah_4⟩ : ∃ z9 : hA, z9 = hup ah q_2 (.inl (dT 3, c9, .inr (.inr (.inr (.inr (fun _ => none)))))) := ⟨_, rfl⟩
        have hw : hW D ah s.heap ah_4 H_3 L4 := by rw [eah_4]; exact hw
        have hne_6 : qa ≠ q_2 := h_fr hmp.1 hqq_2
        have hc_5 := (show ah_4 qa = _ from (by rw [eah_4]; exact hup_n (hne_6))).trans hmp.1
        have hc_q_2 : ah_4 q_2 = some (.inl (dT 3, c9, .inr (.inr (.inr (.inr (fun _ => none)))))) := by rw [eah_4]; exact hup_s
        have hE30 : ext ah ah_4 := by rw [eah_4]; exact ext_new hqq_2
        refine lv_astore_n (lv' := [(2, .ref q_2), (1, .int (nI c9)), (0, .ref qa)]) hx hb dX2_allRings_30 rfl hl (by decide) rfl (fun ls hl => ?_)
        refine lv_iconst (v := 0) hx hb dX2_allRings_31 (by decide) ?_
        refine lv_istore_n (lv' := [(3, .int 0), (2, .ref q_2), (1, .int (nI c9)), (0, .ref qa)]) hx hb dX2_allRings_32 rfl hl (by decide) rfl (fun ls hl => ?_)
        refine lv_iconst (v := 0) hx hb dX2_allRings_33 (by decide) ?_
        refine lv_istore (lv' := [(4, .int 0), (3, .int 0), (2, .ref q_2), (1, .int (nI c9)), (0, .ref qa)]) hx hb dX2_allRings_34 hl (by decide) rfl (fun ls hl => ?_)
        have LP36 : ∀ (k36 : Nat) (i2 : Nat) (a2 : Nat) (FA : Nat → Option Nat) (RTA : Nat → rgT) (ah36 : hA) (ls : Array Slot) (H36 : Heap) (L36 : List Loc), (cn - i2 < k36) → (i2 ≤ cn) → (a2 = OF i2) → (ah36 q_2 = some (.inl (dT 3, c9, .inr (.inr (.inr (.inr FA)))))) → (ext ah ah36) → (arD dT ah OF NR PT i2 0 a2 FA RTA) → lv_has ls 7 [(4, .int (nI i2)), (3, .int (nI a2)), (1, .int (nI c9)), (2, .ref q_2), (0, .ref qa)] → hW D ah s.heap ah36 H36 L36 → W p l e R s m args below meth c H36 L36 (0 + 1) (0 + c9) Q (F0 m 36 ls []) := by
          intro k36
          induction k36 with
          | zero => intro i2 a2 FA RTA ah36 ls H36 L36 hk; exact absurd hk (Nat.not_lt_zero _)
          | succ k36 ih36 =>
            intro i2 a2 FA RTA ah36 ls H36 L36 hk36 hi36 ha36 hq36 hE36 hD36 hl hw
            have hm36 := mpA_ext hE36 hmp
            have hmo6 : i2 < cn → OF i2 + NR i2 ≤ OF cn := fun h9 => by rw [← hO i2 h9]; exact ofM hO (by omega) (by omega)
            refine lv_iload hx hb dX2_allRings_36 (lv_at hl 0 rfl) ?_
            refine lv_aload_n hx hb dX2_allRings_38 rfl (lv_at hl 4 rfl) ?_
            refine h_alen hx hb hK hw 4 rfl hm36.1 dX2_allRings_39 ?_
            refine lv_icmp_ge (tgt := 91) hx hb dX2_allRings_40 (by decide) (fun c_7 => ?_) (fun c_7 => ?_)
            · skip
              have c_7 : cn ≤ i2 := (nI_lex (by rfl) (by rfl) (by omega) (by omega)).mp c_7
              refine lv_aload_n hx hb dX2_allRings_91 rfl (lv_at hl 3 rfl) ?_
              rw [hQ]
              exact h_aret hx hb hr (Or.inr ⟨_, rfl⟩) hlk hsz hw (by simp) (by simp; omega) dX2_allRings_92 ⟨q_2, FA, RTA, rfl, ⟨by rw [← show c9 = OF cn by rw [hc4, show i = cn by omega]]; exact hq36, hOn, fun c8 h8 => ⟨(hD36.1 c8 (by rw [ha36, show i2 = cn by omega]; exact h8)).1, rgA_ext hE36 (hD36.1 c8 (by rw [ha36, show i2 = cn by omega]; exact h8)).2⟩⟩, (fun j hj b hb => hD36.2 j b (Or.inl ⟨by omega, hb⟩)), hE36⟩
            · skip
              have c_7 : ¬ (cn ≤ i2) := (not_congr (nI_lex (by rfl) (by rfl) (by omega) (by omega))).mp c_7
              refine lv_aload_n hx hb dX2_allRings_43 rfl (lv_at hl 4 rfl) ?_
              refine lv_iload hx hb dX2_allRings_44 (lv_at hl 0 rfl) ?_
              obtain ⟨hq_8_f, hq_8_g⟩ := hm36.2 i2 (by omega)
              have hnrhq_8 := hq_8_g.2.2.1
              refine h_aald hx hb hK hw 4 rfl hm36.1 i2 rfl (by omega) (by omega) hq_8_f dX2_allRings_46 ?_
              refine h_getN (ci := 4) (v := .ref ((PT i2).2.1)) (C := RX4) (T := TX4) (N := 2) hx hb hts kl_X4 hown hK hw hq_8_g.1 rfl 1 (by decide) (va_Nw.use rfl (hK.2.1 _ (List.mem_of_getElem? (i := 34) rfl))) rfl rfl dX2_allRings_47 ?_
              refine lv_astore (lv' := [(5, .ref ((PT i2).2.1)), (4, .int (nI i2)), (3, .int (nI a2)), (1, .int (nI c9)), (2, .ref q_2), (0, .ref qa)]) hx hb dX2_allRings_50 hl (by decide) rfl (fun ls hl => ?_)
              refine lv_iconst (v := 0) hx hb dX2_allRings_52 (by decide) ?_
              refine lv_istore (lv' := [(6, .int 0), (5, .ref ((PT i2).2.1)), (4, .int (nI i2)), (3, .int (nI a2)), (1, .int (nI c9)), (2, .ref q_2), (0, .ref qa)]) hx hb dX2_allRings_53 hl (by decide) rfl (fun ls hl => ?_)
              have LP55 : ∀ (k55 : Nat) (b2 : Nat) (a3 : Nat) (FB : Nat → Option Nat) (RTB : Nat → rgT) (ah55 : hA) (ls : Array Slot) (H55 : Heap) (L55 : List Loc), (NR i2 - b2 < k55) → (b2 ≤ NR i2) → (a3 = OF i2 + b2) → (ah55 q_2 = some (.inl (dT 3, c9, .inr (.inr (.inr (.inr FB)))))) → (ext ah ah55) → (arD dT ah OF NR PT i2 b2 a3 FB RTB) → lv_has ls 7 [(6, .int (nI b2)), (5, .ref ((PT i2).2.1)), (4, .int (nI i2)), (3, .int (nI a3)), (1, .int (nI c9)), (2, .ref q_2), (0, .ref qa)] → hW D ah s.heap ah55 H55 L55 → W p l e R s m args below meth c H55 L55 (0 + 1) (0 + c9) Q (F0 m 55 ls []) := by
                intro k55
                induction k55 with
                | zero => intro b2 a3 FB RTB ah55 ls H55 L55 hk; exact absurd hk (Nat.not_lt_zero _)
                | succ k55 ih55 =>
                  intro b2 a3 FB RTB ah55 ls H55 L55 hk55 hb55 ha55 hq55 hE55 hD55 hl hw
                  have hm55 := mpA_ext hE55 hmp
                  have hg55 := (hm55.2 i2 (by omega)).2
                  have hnr55 := hg55.2.2.1
                  have hmo7 := hmo6 (by omega)
                  have hne55 : (PT i2).2.1 ≠ q_2 := h_fr (hmp.2 i2 (by omega)).2.2.1 hqq_2
                  refine lv_iload hx hb dX2_allRings_55 (lv_at hl 0 rfl) ?_
                  refine lv_aload hx hb dX2_allRings_57 (lv_at hl 1 rfl) ?_
                  refine h_alen hx hb hK hw 3 rfl hg55.2.1 dX2_allRings_59 ?_
                  refine lv_icmp_ge (tgt := 85) hx hb dX2_allRings_60 (by decide) (fun c_9 => ?_) (fun c_9 => ?_)
                  · skip
                    have c_9 : NR i2 ≤ b2 := (nI_lex (by rfl) (by rfl) (by omega) (by omega)).mp c_9
                    refine lv_iinc (v := nI (i2 + 1)) (lv' := [(4, .int (nI (i2 + 1))), (6, .int (nI b2)), (5, .ref ((PT i2).2.1)), (3, .int (nI a3)), (1, .int (nI c9)), (2, .ref q_2), (0, .ref qa)]) hx hb dX2_allRings_85 hl (k := 2) rfl (nI_c _ 1) (by decide) rfl (fun ls hl => ?_)
                    refine lv_goto (tgt := 36) hx hb dX2_allRings_88 (by decide) ?_
                    exact ih36 (i2 + 1) a3 FB RTB ah55 ls _ _ (by omega) (by omega) (by have := hO i2 (by omega); omega) hq55 hE55 (arD_r hD55 (by omega)) (lv_sub hl [0, 3, 4, 5, 6] rfl) hw
                  · skip
                    have c_9 : ¬ (NR i2 ≤ b2) := (not_congr (nI_lex (by rfl) (by rfl) (by omega) (by omega))).mp c_9
                    refine lv_iload_n hx hb dX2_allRings_63 rfl (lv_at hl 3 rfl) ?_
                    refine lv_iload_n hx hb dX2_allRings_64 rfl (lv_at hl 4 rfl) ?_
                    refine lv_icmp_ge (tgt := 85) hx hb dX2_allRings_65 (by decide) (fun c_11 => ?_) (fun c_11 => ?_)
                    · skip
                      have c_11 : c9 ≤ a3 := (nI_lex (by rfl) (by rfl) (by omega) (by omega)).mp c_11
                      exfalso
                      omega
                    · skip
                      have c_11 : ¬ (c9 ≤ a3) := (not_congr (nI_lex (by rfl) (by rfl) (by omega) (by omega))).mp c_11
                      refine lv_aload_n hx hb dX2_allRings_68 rfl (lv_at hl 5 rfl) ?_
                      refine lv_iload_n hx hb dX2_allRings_69 rfl (lv_at hl 3 rfl) ?_
                      refine lv_aload hx hb dX2_allRings_70 (lv_at hl 1 rfl) ?_
                      refine lv_iload hx hb dX2_allRings_72 (lv_at hl 0 rfl) ?_
                      obtain ⟨hr_12_f, hr_12_g⟩ := hg55.2.2.2 b2 (by omega)
                      refine h_aald hx hb hK hw 3 rfl hg55.2.1 b2 rfl (by omega) (by omega) hr_12_f dX2_allRings_74 ?_
                      refine h_aast hx hb hK hw 3 5 hq55 rfl hr_12_g.1 rfl a3 rfl (by omega) (by omega) dX2_allRings_75 (fun H_13 L_14 hw => ?_)
                      obtain ⟨ah_15, eah_15⟩ : ∃ z9 : hA, z9 = hup ah55 q_2 (.inl (dT 3, c9, .inr (.inr (.inr (.inr (va_up FB a3 (some (((PT i2).2.2.2 b2).1 0)))))))) := ⟨_, rfl⟩
                      have hw : hW D ah s.heap ah_15 H_13 L_14 := by rw [eah_15]; exact hw
                      have hc_16 : ah_15 q_2 = some (.inl (dT 3, c9, .inr (.inr (.inr (.inr (va_up FB a3 (some (((PT i2).2.2.2 b2).1 0)))))))) := by rw [eah_15]; exact hup_s
                      have hc_17 := (show ah_15 ((PT i2).2.1) = _ from (by rw [eah_15]; exact hup_n (hne55))).trans hg55.2.1
                      have hc_18 := (show ah_15 (((PT i2).2.2.2 b2).1 0) = _ from (by rw [eah_15]; exact hup_n (h_ne hr_12_g.1 hq55 (by simp)))).trans hr_12_g.1
                      refine lv_iinc (v := nI (a3 + 1)) (lv' := [(3, .int (nI (a3 + 1))), (6, .int (nI b2)), (5, .ref ((PT i2).2.1)), (4, .int (nI i2)), (1, .int (nI c9)), (2, .ref q_2), (0, .ref qa)]) hx hb dX2_allRings_76 hl (k := 3) rfl (nI_c _ 1) (by decide) rfl (fun ls hl => ?_)
                      refine lv_iinc (v := nI (b2 + 1)) (lv' := [(6, .int (nI (b2 + 1))), (3, .int (nI (a3 + 1))), (5, .ref ((PT i2).2.1)), (4, .int (nI i2)), (1, .int (nI c9)), (2, .ref q_2), (0, .ref qa)]) hx hb dX2_allRings_79 hl (k := 1) rfl (nI_c _ 1) (by decide) rfl (fun ls hl => ?_)
                      refine lv_goto (tgt := 55) hx hb dX2_allRings_82 (by decide) ?_
                      exact ih55 (b2 + 1) (a3 + 1) (va_up FB a3 (some (((PT i2).2.2.2 b2).1 0))) (va_up RTB a3 ((PT i2).2.2.2 b2)) ah_15 ls _ _ (by omega) (by omega) (by omega) hc_16 (fun a9 e9 h9 => by rw [eah_15]; exact (hup_n (h_fr h9 hqq_2)).trans (hE55 a9 e9 h9)) (arD_s hD55 ha55 hO (by omega) (hmp.2 i2 (by omega)).2 (by omega)) (lv_sub hl [0, 2, 3, 1, 4, 5, 6] rfl) hw
              exact LP55 ((NR i2 - 0) + 1) 0 a2 FA RTA ah36 ls _ _ (Nat.lt_succ_self _) (by omega) (by omega) hq36 hE36 hD36 (lv_sub hl [0, 1, 2, 3, 4, 5, 6] rfl) hw
        exact LP36 ((cn - 0) + 1) 0 0 (fun _ => none) (fun _ => rg0) ah_4 ls _ _ (Nat.lt_succ_self _) (by omega) hO0.symm hc_q_2 hE30 arD_0 (lv_sub hl [0, 1, 3, 2, 4] rfl) hw
      · skip
        have c_1 : ¬ (cn ≤ i) := (not_congr (nI_lex (by rfl) (by rfl) (by omega) (by omega))).mp c_1
        refine lv_iload_n hx hb dX2_allRings_10 rfl (lv_at hl 1 rfl) ?_
        refine lv_aload_n hx hb dX2_allRings_11 rfl (lv_at hl 2 rfl) ?_
        refine lv_iload_n hx hb dX2_allRings_12 rfl (lv_at hl 0 rfl) ?_
        obtain ⟨hq_21_f, hq_21_g⟩ := hmp.2 i (by omega)
        have hnrhq_21 := hq_21_g.2.2.1
        refine h_aald hx hb hK hw 4 rfl hmp.1 i rfl (by omega) (by omega) hq_21_f dX2_allRings_13 ?_
        refine h_getN (ci := 4) (v := .ref ((PT i).2.1)) (C := RX4) (T := TX4) (N := 2) hx hb hts kl_X4 hown hK hw hq_21_g.1 rfl 1 (by decide) (va_Nw.use rfl (hK.2.1 _ (List.mem_of_getElem? (i := 34) rfl))) rfl rfl dX2_allRings_14 ?_
        refine h_alen hx hb hK hw 3 rfl hq_21_g.2.1 dX2_allRings_17 ?_
        refine lv_iadd hx hb dX2_allRings_18 ?_
        refine lv_topi (fun t_22 et_22 => ?_)
        obtain rfl : t_22 = nI (c9 + NR i) := et_22.trans (nI_add _ _)
        refine lv_istore_n (lv' := [(1, .int (nI (c9 + NR i))), (2, .int (nI i)), (0, .ref qa)]) hx hb dX2_allRings_19 rfl hl (by decide) rfl (fun ls hl => ?_)
        refine lv_iinc (v := nI (i + 1)) (lv' := [(2, .int (nI (i + 1))), (1, .int (nI (c9 + NR i))), (0, .ref qa)]) hx hb dX2_allRings_20 hl (k := 1) rfl (nI_c _ 1) (by decide) rfl (fun ls hl => ?_)
        refine lv_goto (tgt := 4) hx hb dX2_allRings_23 (by decide) ?_
        exact ih4 (i + 1) (c9 + NR i) ls _ _ (by omega) (by omega) (by have := hO i (by omega); omega) (lv_sub hl [0, 1, 2] rfl) hw
  exact LP4 ((cn - 0) + 1) 0 0 ls _ _ (Nat.lt_succ_self _) (by omega) hO0.symm (lv_sub hl [0, 1, 2] rfl) hw

/-! The law's steps -/
/-- what the law's body knows of the machine -/
def lwC (p : Program) (s : State) (m : MethodId) (meth : Method) (c : Code) (D : va_G) (dT : Nat → ClassId) (args : Array Value) (b L : Nat) (xs : Nat → Int32) (ah : hA) : Prop :=
  p.tables.exec = Jvm.exec ∧ c.code = cL_law ∧ c.maxLocals = 7 ∧ s.vm.findClass RL = some m.cls ∧ (∀ w ∈ hAll, w.before args s = true) ∧ hC D dT s ∧ hX ah s.heap.size s ∧ hY s ∧ va_X b L xs s s.heap ∧ b < s.heap.size ∧ ¬ hFr ah s.heap.size b
section
variable {p : Program} {l : Launch} {e : Env} {R : Room} {s : State} {m : MethodId} {args : Array Value} {below : List Frame} {meth : Method} {c : Code} {H : Heap} {locs : List Loc} {cells slots : Nat} {Q : State → Prop} {cc : ByteArray} {pc : Nat} {ls : Array Slot} {rest : List Value} {D : va_G} {ah0 ah : hA}
theorem h_sld (hexec : p.tables.exec = Jvm.exec) (hb : c.code = cc) {b L j : Nat} {xs : Nat → Int32} (hX : va_X b L xs s s.heap) (hbl : b < s.heap.size) (hbA : ¬ hFr ah0 s.heap.size b) (hw : hW D ah0 s.heap ah H locs) (hj : j < L) (hL : L < 2 ^ 31) (hdg : decode cc pc = .ok (.iaload, 1))
    (kk : W p l e R s m args below meth c H locs cells slots Q (F0 m (pc + 1) ls (.int (xs j) :: rest))) : W p l e R s m args below meth c H locs cells slots Q (F0 m pc ls (.int (nI j) :: .ref b :: rest)) := by
  refine va_sld hexec hb hX hbl hbA hw.2.1 (vp_in_nI hj hL) hdg ?_
  rw [nI_clamp (by omega)]; exact kk
end
section
variable {dT : Nat → ClassId} {ah : hA} {sj sh fd ins pa mt : Nat} {RO RA cap : Nat → Nat} {ns nc np nr no : Nat} {f g : Nat → Nat → Int32} {q : Nat → Int32} {wh : Int32} {pl : Nat → Int32} {jd : Bool} {FC FP FG RC PF PC RP RN OP : Nat → Nat} {PA : Nat → Int32}
theorem rw_1 {n c : Nat} (h : n ≤ c) (hn : n ≤ 512) : rwG n c ≤ 1024 := by unfold rwG; split <;> omega
theorem rw_b (hj : cjA dT ah sj sh fd ins pa mt RO RA cap ns nc np no nr f wh pl jd) : (ns ≤ 512 → rwG ns (cap 0) ≤ 1024 ∧ rwG ns (cap 1) ≤ 1024 ∧ rwG ns (cap 2) ≤ 1024) ∧ (nc ≤ 512 → rwG nc (cap 3) ≤ 1024) ∧ (np ≤ 512 → rwG np (cap 4) ≤ 1024 ∧ rwG np (cap 5) ≤ 1024) ∧ (no ≤ 512 → rwG no (cap 6) ≤ 1024) := by
  have h := fun i hi => (hj.2.2.1.2.1 i hi).2.2.1
  exact ⟨fun h1 => ⟨rw_1 (h 0 (by decide)) h1, rw_1 (h 1 (by decide)) h1, rw_1 (h 2 (by decide)) h1⟩, fun h1 => rw_1 (h 3 (by decide)) h1, fun h1 => ⟨rw_1 (h 4 (by decide)) h1, rw_1 (h 5 (by decide)) h1⟩, fun h1 => rw_1 (h 6 (by decide)) h1⟩
theorem jd_take (h : jI ns nc np nr no f g q wh pl jd FC FP FG RC PF PC RP RN OP PA) {x : Int32} (ht : ¬ mTake (f 0) OP ns no x = false) : jd = false := by
  have htt := mTake_t ht
  cases jd with
  | false => rfl
  | true => have := h.2.2.2.2.1 rfl; omega
theorem nc_b {x : Int32} {nc2 : Nat} {P : Prop} (h : (x = 1 ∨ x = 2) ∧ nc2 = nc + 1 ∧ P ∨ ¬ (x = 1 ∨ x = 2) ∧ nc2 = nc) : nc2 ≤ nc + 1 := by rcases h with ⟨-, h, -⟩ | ⟨-, h⟩ <;> omega
theorem jg_ln (h : jI ns nc np nr no f g q wh pl jd FC FP FG RC PF PC RP RN OP PA) : ∀ si, si < ns → rwGet (f 0) ns (nI si) = 2 → FC si < nc := fun si hsi h2 => by
  have hb := jI_b h
  rw [rwGet_n hsi (by omega)] at h2
  obtain ⟨hV, -, -, -, -, h6, -⟩ := h.1
  have h1 := ((h6 si hsi).1 (Or.inr h2)).1
  have h3 : FC (si + 1) ≤ nc := by rw [← hV.2.1]; exact up_mono hV.2.2.2.2.1 hsi (Nat.le_refl _)
  omega
theorem jg_m3 (h : jI ns nc np nr no f g q wh pl jd FC FP FG RC PF PC RP RN OP PA) : ∀ j, j < ns → rwGet (f 0) ns (rwGet (f 1) ns (nI j)) = 6 → rwGet (f 0) ns (nI j) = 3 := fun j hj h6 => by
  have hb := jI_b h
  obtain ⟨-, -, -, -, -, -, -, h8, h9⟩ := h.1
  rw [rwGet_n hj (by omega)] at h6 ⊢
  rcases h8 j hj with hw | ⟨w, hw1, hw2⟩
  · rw [hw, show rwGet (f 0) ns (-1) = 0 from if_pos (by decide)] at h6; exact absurd h6 (by decide)
  · rw [hw2, rwGet_n (show w < ns by omega) (by omega)] at h6
    exact (h9 w j hw1 hj h6 hw2).2.1
end
set_option maxHeartbeats 4000000 in
set_option maxRecDepth 100000 in
theorem st_open {p : Program} {l : Launch} {e : Env} {R : Room} {s : State} {m : MethodId} {args : Array Value} {below : List Frame} {meth : Method} {c : Code} {Q : State → Prop} {D : va_G} {dT : Nat → ClassId} {b L : Nat} {xs : Nat → Int32} (hlt : l.stackTraces = false) (hR : R = room_1) (ah : hA) (hC9 : lwC p s m meth c D dT args b L xs ah) (hL : L ≤ 1536) {k sj mo out cr sr : Nat} (hkL : 3 * k + 3 ≤ L) {ah9 : hA} {H9 : Heap} {L9 : List Loc} {ls : Array Slot} {cl9 sl9 : Nat} (hI : lwI dT ah9 sj mo out k cr sr) (hw : hW D ah s.heap ah9 H9 L9) (hcb : cl9 + cr ≤ 100 + 13 * k) (hsb : sl9 + sr ≤ 40000 + 5143 * k) (hl : lv_has ls 7 [(4, .int (nI (3 * k))), (3, .ref out), (2, .ref mo), (1, .ref sj), (0, .ref b)])
    (kk : ∀ (ls : Array Slot) (ah2 : hA) (H2 : Heap) (L2 : List Loc) (cl2 sl2 cr2 sr2 : Nat), lwI dT ah2 sj mo out (k + 1) cr2 sr2 → hW D ah s.heap ah2 H2 L2 → cl2 + cr2 ≤ 100 + 13 * (k + 1) → sl2 + sr2 ≤ 40000 + 5143 * (k + 1) → lv_has ls 7 [(4, .int (nI (3 * k))), (3, .ref out), (2, .ref mo), (1, .ref sj), (0, .ref b)] → W p l e R s m args below meth c H2 L2 cl2 sl2 Q (F0 m 385 ls [])) : W p l e R s m args below meth c H9 L9 cl9 sl9 Q (F0 m 93 ls []) := by
  obtain ⟨hx, hb, hml, hown, hts, hK, hX9, hY9, hXX, hbl, hbA⟩ := hC9
  obtain ⟨sh, fd, ins, pa, mt, RO, RA, cap, AR, ns, nc, np, nr, no, f, g, q, wh, pl, jd, FC, FP, FG, RC, PF, PC, RP, RN, OP, PA, fL, hj, hm, hI, ho, hS, hcnt, rfl, rfl⟩ := hI
  have hbb := jI_b hI
  have hN := hI.2.1
  have hMS := hI.1.2.1
  have hq := hOQ hI
  have hrw := rw_b hj
  refine lv_aload_n hx hb dL_law_93 rfl (lv_at hl 3 rfl) ?_
  refine lv_aload_n hx hb dL_law_94 rfl (lv_at hl 4 rfl) ?_
  refine lv_iload hx hb dL_law_95 (lv_at hl 0 rfl) ?_
  refine lv_iconst (v := 1) hx hb dL_law_97 (by decide) ?_
  refine lv_iadd hx hb dL_law_98 ?_
  refine lv_topi (fun t_1 et_1 => ?_)
  obtain rfl : t_1 = nI (3 * k + 1) := et_1.trans (nI_c _ 1)
  refine h_sld hx hb hXX hbl hbA hw (j := (3 * k + 1)) (by omega) (by omega) dL_law_99 ?_
  refine lv_aload_n hx hb dL_law_100 rfl (lv_at hl 1 rfl) ?_
  refine h_callSH (n := 3) (As := [.ref sj, .int (xs (3 * k + 1)), .ref out]) (rest := []) ⟨hx, hb, hml, hown, hts⟩ hK hX9 hY9 hw (c_L_open l D dT ah9 H9.size sj out _ hj.1 fL (xs (3 * k + 1)) 6 124 5 (6 + (rwG ns (cap 1) + rwG no (cap 6) + rwG ns (cap 0) + rwG ns (cap 2) + rwG nc (cap 3))) _ _ (c_X9_open l D dT ah9 H9.size hlt sj sh fd ins pa mt RO RA cap ns nc np no nr f wh pl jd hj (by omega) (by omega) (by omega) (by omega) (by omega) (xs (3 * k + 1))) (fun r9 ah9 h9 => ⟨_, h9.2.1, by obtain ⟨-, -, RA2, cap2, f2, nc2, -, hk9, -⟩ := h9; exact o_keep hj hk9 ho⟩) (fun E h9 => by rcases h9 with h9 | h9 | h9; exact Or.inl h9.1; exact Or.inr (Or.inl h9.1); exact Or.inr (Or.inr (h9.1)))) ko_L_open km_L_46 kt_L_open kn_L (by decide +kernel) rfl hl.1 rfl (by simp [Value.category]) dL_law_101 (by rw [hR]; exact ⟨rfl, rfl, Nat.le_of_ble_eq_true rfl, Nat.le_of_ble_eq_true rfl, by show _ ≤ 601024; omega, by show _ ≤ 7293034; omega⟩) (fun r_2 ah_3 H_4 L_5 st_6 hp hw hst => ?_)
  rcases hp with ⟨v, ahX, hpX, rfl, e1⟩ | ⟨hpx, rfl, rfl⟩ | ⟨hpx, rfl, rfl⟩ | ⟨hpx, rfl, rfl⟩
  · skip
    obtain ⟨⟨hr1, hr2, hr3⟩, hv, RA2, cap2, f2, nc2, hj2, hkK, hRA2, hD2, f20, f21, f22, f26, hnc2⟩ := hpX
    cases hv
    have hoX := o_keep hj hkK ho
    have hmX := m_keep hj hm hS hkK
    have hm1 : moA dT ah_3 mo AR q g := by rw [e1]; exact out_up hmX hoX
    have hj1 : cjA dT ah_3 sj sh fd ins pa mt RO RA2 cap2 (ns + 1) nc2 np (no + 1) nr f2 wh pl jd := by rw [e1]; exact out_cj hj2 hoX
    have ho1 : ah_3 out = some (.inl (dT 1, 1, .inr (.inl (vp_updL fL 0 (nI (no + 1)).toInt64)))) := by rw [e1]; exact hup_s
    have hst : st_6 = [.int 0] := hst
    subst hst
    refine lv_istore (lv' := [(5, .int 0), (4, .int (nI (3 * k))), (3, .ref out), (2, .ref mo), (1, .ref sj), (0, .ref b)]) hx hb dL_law_104 hl (by decide) rfl (fun ls hl => ?_)
    refine lv_aload_n hx hb dL_law_106 rfl (lv_at hl 3 rfl) ?_
    refine lv_aload_n hx hb dL_law_107 rfl (lv_at hl 5 rfl) ?_
    refine lv_iload hx hb dL_law_108 (lv_at hl 1 rfl) ?_
    refine lv_iconst (v := 1) hx hb dL_law_110 (by decide) ?_
    refine lv_iadd hx hb dL_law_111 ?_
    refine lv_topi (fun t_7 et_7 => ?_)
    obtain rfl : t_7 = nI (3 * k + 1) := et_7.trans (nI_c _ 1)
    refine h_sld hx hb hXX hbl hbA hw (j := (3 * k + 1)) (by omega) (by omega) dL_law_112 ?_
    refine h_callV (n := 1) (ci := 10) (b := mo) (As := [.int (xs (3 * k + 1))]) (rest := []) ⟨hx, hb, hml, hown, hts⟩ hK hw (c_X10_open l D dT ah_3 H_4.size mo AR q g hm1 ns _ np nr no hN FG RC PF PC (f 0) (f 1) PA hMS OP hq (xs (3 * k + 1))) ko_X10_open km_L_51 ki_X10_open ks_X10_open kn_X10 (by decide +kernel) rfl hm1.1 rfl hl.1 rfl (by simp [Value.category]) dL_law_113 (by rw [hR]; exact ⟨rfl, rfl, Nat.le_of_ble_eq_true rfl, Nat.le_of_ble_eq_true rfl, by show _ ≤ 601024; omega, by show _ ≤ 7293034; omega⟩) (fun r_8 ah_9 H_10 L_11 st_12 hp hw hst => ?_)
    rcases hp with ⟨m1, rfl, eah_9⟩ | ⟨m1, m2, rfl, eah_9⟩ | ⟨m1, m2, m3, rfl, eah_9⟩ | ⟨m1, m2, m3, rfl, q2, g2, hm2, hN2, hq0, k0, k1, k2, k3, k4, k5, k6, k11, kr, hFr2⟩
    · skip
      exfalso
      exact (x17.mp m1).elim (fun h9 => hr1.1 h9) (fun h9 => h9 hr1.2)
    · skip
      exfalso
      exact hr2 ((take_e hI).trans m2)
    · skip
      exfalso
      omega
    · skip
      have htk : ¬ mTake (f 0) OP ns no (xs (3 * k + 1)) = false := m2
      have hjd : jd = false := jd_take hI htk
      subst hjd
      simp only [Bool.false_eq_true, if_false] at hcb hsb
      have ho2 := oc_keep hm1 hFr2 ho1
      have hI2 := jI_open hI htk hN2 hD2 f20 (f21.trans (out_t hI)) f22 f26 hnc2 k0 k1 k2 k3 k4 k5 k6 k11 kr
      have hst : st_12 = [.int (nI (no + 1))] := hst
      subst hst
      refine lv_istore (lv' := [(6, .int (nI (no + 1))), (5, .int 0), (4, .int (nI (3 * k))), (3, .ref out), (2, .ref mo), (1, .ref sj), (0, .ref b)]) hx hb dL_law_116 hl (by decide) rfl (fun ls hl => ?_)
      refine lv_aload_n hx hb dL_law_118 rfl (lv_at hl 4 rfl) ?_
      refine h_callV (n := 0) (ci := 10) (b := mo) (As := []) (rest := []) ⟨hx, hb, hml, hown, hts⟩ hK hw (c_X10_thrown l D dT ah_9 H_10.size mo AR q2 g2 hm2) ko_X10_thrown km_L_52 ki_X10_thrown ks_X10_thrown kn_X10 (by decide +kernel) rfl hm2.1 rfl hl.1 rfl (by simp [Value.category]) dL_law_119 (by rw [hR]; exact ⟨rfl, rfl, Nat.le_of_ble_eq_true rfl, Nat.le_of_ble_eq_true rfl, by show _ ≤ 601024; omega, by show _ ≤ 7293034; omega⟩) (fun r_13 ah_14 H_15 L_16 st_17 hp hw hst => ?_)
      obtain ⟨rfl, rfl⟩ := hp
      rw [show q2 0 = 0 from hq0] at hst
      have hst : st_17 = [.int 0] := hst
      subst hst
      refine lv_iload hx hb dL_law_122 (lv_at hl 1 rfl) ?_
      refine lv_icmp_eq (tgt := 129) hx hb dL_law_124 (by decide) (fun c_18 => ?_) (fun c_18 => ?_)
      · skip
        refine lv_iload hx hb dL_law_129 (lv_at hl 1 rfl) ?_
        refine lv_if_ne (tgt := 146) hx hb dL_law_131 (by decide) (fun c_19 => ?_) (fun c_19 => ?_)
        · exact absurd c_19 (by decide)
        · skip
          refine lv_aload_n hx hb dL_law_134 rfl (lv_at hl 3 rfl) ?_
          refine lv_iconst (v := 0) hx hb dL_law_135 (by decide) ?_
          refine h_lald hx hb hK hw ho2 0 (by decide) (by omega) (by omega) dL_law_136 ?_
          rw [show (vp_updL fL 0 (nI (no + 1)).toInt64) 0 = (nI (no + 1)).toInt64 from rfl]
          refine lv_iload hx hb dL_law_137 (lv_at hl 0 rfl) ?_
          refine lv_i2l (v := (nI (no + 1)).toInt64) hx hb dL_law_139 rfl ?_
          refine W.lcmp hx hb dL_law_140 ?_
          refine lv_if_eq (tgt := 146) hx hb dL_law_141 (by decide) (fun c_20 => ?_) (fun c_20 => ?_)
          · skip
            have c_20 : (nI (no + 1)).toInt64 = (nI (no + 1)).toInt64 := lgc_eq.mp c_20
            refine lv_goto (tgt := 385) hx hb dL_law_146 (by decide) ?_
            exact kk ls ah_9 _ _ _ _ _ _ (⟨sh, fd, ins, pa, mt, RO, RA2, cap2, AR, ns + 1, nc2, np, nr, no + 1, f2, g2, q2, wh, pl, false, _, _, _, _, _, _, _, _, _, _, _, c_keep hj1 hm1 (sep_2 hm hS hRA2) hFr2, hm2, hI2, oc_keep hm1 hFr2 ho1, sep_2 hm hS hRA2, by omega, rfl, rfl⟩) hw (by have := nc_b hnc2; simp only [Bool.false_eq_true, if_false]; omega) (by have := nc_b hnc2; simp only [Bool.false_eq_true, if_false]; omega) (lv_sub hl [2, 3, 4, 5, 6] rfl)
          · skip
            have c_20 : ¬ ((nI (no + 1)).toInt64 = (nI (no + 1)).toInt64) := (not_congr lgc_eq).mp c_20
            exfalso
            exact absurd rfl c_20
      · exact absurd c_18 (by decide)
  · skip
    have hP : ((xs (3 * k + 1)) < 1 ∨ ¬ (xs (3 * k + 1)) ≤ 7) := (by rcases hpx with ⟨-, h9⟩ | ⟨h9, -⟩ | ⟨h9, -⟩; exact h9; exact absurd h9 (by decide); exact absurd h9 (by decide))
    have hst : st_6 = [.int 1] := hst
    subst hst
    refine lv_istore (lv' := [(5, .int 1), (4, .int (nI (3 * k))), (3, .ref out), (2, .ref mo), (1, .ref sj), (0, .ref b)]) hx hb dL_law_104 hl (by decide) rfl (fun ls hl => ?_)
    refine lv_aload_n hx hb dL_law_106 rfl (lv_at hl 3 rfl) ?_
    refine lv_aload_n hx hb dL_law_107 rfl (lv_at hl 5 rfl) ?_
    refine lv_iload hx hb dL_law_108 (lv_at hl 1 rfl) ?_
    refine lv_iconst (v := 1) hx hb dL_law_110 (by decide) ?_
    refine lv_iadd hx hb dL_law_111 ?_
    refine lv_topi (fun t_21 et_21 => ?_)
    obtain rfl : t_21 = nI (3 * k + 1) := et_21.trans (nI_c _ 1)
    refine h_sld hx hb hXX hbl hbA hw (j := (3 * k + 1)) (by omega) (by omega) dL_law_112 ?_
    refine h_callV (n := 1) (ci := 10) (b := mo) (As := [.int (xs (3 * k + 1))]) (rest := []) ⟨hx, hb, hml, hown, hts⟩ hK hw (c_X10_open l D dT ah9 H_4.size mo AR q g hm ns _ np nr no hN FG RC PF PC (f 0) (f 1) PA hMS OP hq (xs (3 * k + 1))) ko_X10_open km_L_51 ki_X10_open ks_X10_open kn_X10 (by decide +kernel) rfl hm.1 rfl hl.1 rfl (by simp [Value.category]) dL_law_113 (by rw [hR]; exact ⟨rfl, rfl, Nat.le_of_ble_eq_true rfl, Nat.le_of_ble_eq_true rfl, by show _ ≤ 601024; omega, by show _ ≤ 7293034; omega⟩) (fun r_22 ah_23 H_24 L_25 st_26 hp hw hst => ?_)
    rcases hp with ⟨m1, rfl, eah_23⟩ | ⟨m1, m2, rfl, eah_23⟩ | ⟨m1, m2, m3, rfl, eah_23⟩ | ⟨m1, m2, m3, rfl, q2, g2, hm2, hN2, hq0, k0, k1, k2, k3, k4, k5, k6, k11, kr, hFr2⟩
    · skip
      have hm2 := moA_q hm eah_23
      have hst : st_26 = [.int 0] := hst
      subst hst
      refine lv_istore (lv' := [(6, .int 0), (5, .int 1), (4, .int (nI (3 * k))), (3, .ref out), (2, .ref mo), (1, .ref sj), (0, .ref b)]) hx hb dL_law_116 hl (by decide) rfl (fun ls hl => ?_)
      refine lv_aload_n hx hb dL_law_118 rfl (lv_at hl 4 rfl) ?_
      refine h_callV (n := 0) (ci := 10) (b := mo) (As := []) (rest := []) ⟨hx, hb, hml, hown, hts⟩ hK hw (c_X10_thrown l D dT ah_23 H_24.size mo AR (upd q 0 1) g hm2) ko_X10_thrown km_L_52 ki_X10_thrown ks_X10_thrown kn_X10 (by decide +kernel) rfl hm2.1 rfl hl.1 rfl (by simp [Value.category]) dL_law_119 (by rw [hR]; exact ⟨rfl, rfl, Nat.le_of_ble_eq_true rfl, Nat.le_of_ble_eq_true rfl, by show _ ≤ 601024; omega, by show _ ≤ 7293034; omega⟩) (fun r_27 ah_28 H_29 L_30 st_31 hp hw hst => ?_)
      obtain ⟨rfl, rfl⟩ := hp
      rw [show (upd q 0 1) 0 = 1 from upd_e] at hst
      have hst : st_31 = [.int 1] := hst
      subst hst
      refine lv_iload hx hb dL_law_122 (lv_at hl 1 rfl) ?_
      refine lv_icmp_eq (tgt := 129) hx hb dL_law_124 (by decide) (fun c_32 => ?_) (fun c_32 => ?_)
      · skip
        refine lv_iload hx hb dL_law_129 (lv_at hl 1 rfl) ?_
        refine lv_if_ne (tgt := 146) hx hb dL_law_131 (by decide) (fun c_33 => ?_) (fun c_33 => ?_)
        · skip
          refine lv_goto (tgt := 385) hx hb dL_law_146 (by decide) ?_
          exact kk ls ah_23 _ _ _ _ _ _ (lw_same hj hm hI ho hS hcnt (q2 := upd q 0 1) (fun i h1 h2 => upd_n (by omega)) eah_23) hw ((by cases jd <;> simp at hcb hsb ⊢ <;> omega)) ((by cases jd <;> simp at hcb hsb ⊢ <;> omega)) (lv_sub hl [2, 3, 4, 5, 6] rfl)
        · exact absurd c_33 (by decide)
      · exact absurd c_32 (by decide)
    · skip
      exfalso
      exact m1 (x17.mpr hP)
    · skip
      exfalso
      exact m1 (x17.mpr hP)
    · skip
      exfalso
      exact m1 (x17.mpr hP)
  · skip
    have hP : (¬ (xs (3 * k + 1)) < 1 ∧ (xs (3 * k + 1)) ≤ 7) ∧ shTake f ns no (xs (3 * k + 1)) = false := (by rcases hpx with ⟨h9, -⟩ | ⟨-, h9⟩ | ⟨h9, -⟩; exact absurd h9 (by decide); exact h9; exact absurd h9 (by decide))
    have hst : st_6 = [.int 2] := hst
    subst hst
    refine lv_istore (lv' := [(5, .int 2), (4, .int (nI (3 * k))), (3, .ref out), (2, .ref mo), (1, .ref sj), (0, .ref b)]) hx hb dL_law_104 hl (by decide) rfl (fun ls hl => ?_)
    refine lv_aload_n hx hb dL_law_106 rfl (lv_at hl 3 rfl) ?_
    refine lv_aload_n hx hb dL_law_107 rfl (lv_at hl 5 rfl) ?_
    refine lv_iload hx hb dL_law_108 (lv_at hl 1 rfl) ?_
    refine lv_iconst (v := 1) hx hb dL_law_110 (by decide) ?_
    refine lv_iadd hx hb dL_law_111 ?_
    refine lv_topi (fun t_34 et_34 => ?_)
    obtain rfl : t_34 = nI (3 * k + 1) := et_34.trans (nI_c _ 1)
    refine h_sld hx hb hXX hbl hbA hw (j := (3 * k + 1)) (by omega) (by omega) dL_law_112 ?_
    refine h_callV (n := 1) (ci := 10) (b := mo) (As := [.int (xs (3 * k + 1))]) (rest := []) ⟨hx, hb, hml, hown, hts⟩ hK hw (c_X10_open l D dT ah9 H_4.size mo AR q g hm ns _ np nr no hN FG RC PF PC (f 0) (f 1) PA hMS OP hq (xs (3 * k + 1))) ko_X10_open km_L_51 ki_X10_open ks_X10_open kn_X10 (by decide +kernel) rfl hm.1 rfl hl.1 rfl (by simp [Value.category]) dL_law_113 (by rw [hR]; exact ⟨rfl, rfl, Nat.le_of_ble_eq_true rfl, Nat.le_of_ble_eq_true rfl, by show _ ≤ 601024; omega, by show _ ≤ 7293034; omega⟩) (fun r_35 ah_36 H_37 L_38 st_39 hp hw hst => ?_)
    rcases hp with ⟨m1, rfl, eah_36⟩ | ⟨m1, m2, rfl, eah_36⟩ | ⟨m1, m2, m3, rfl, eah_36⟩ | ⟨m1, m2, m3, rfl, q2, g2, hm2, hN2, hq0, k0, k1, k2, k3, k4, k5, k6, k11, kr, hFr2⟩
    · skip
      exfalso
      exact (x17.mp m1).elim (fun h9 => hP.1.1 h9) (fun h9 => h9 hP.1.2)
    · skip
      have hm2 := moA_q hm eah_36
      have hst : st_39 = [.int 0] := hst
      subst hst
      refine lv_istore (lv' := [(6, .int 0), (5, .int 2), (4, .int (nI (3 * k))), (3, .ref out), (2, .ref mo), (1, .ref sj), (0, .ref b)]) hx hb dL_law_116 hl (by decide) rfl (fun ls hl => ?_)
      refine lv_aload_n hx hb dL_law_118 rfl (lv_at hl 4 rfl) ?_
      refine h_callV (n := 0) (ci := 10) (b := mo) (As := []) (rest := []) ⟨hx, hb, hml, hown, hts⟩ hK hw (c_X10_thrown l D dT ah_36 H_37.size mo AR (upd q 0 2) g hm2) ko_X10_thrown km_L_52 ki_X10_thrown ks_X10_thrown kn_X10 (by decide +kernel) rfl hm2.1 rfl hl.1 rfl (by simp [Value.category]) dL_law_119 (by rw [hR]; exact ⟨rfl, rfl, Nat.le_of_ble_eq_true rfl, Nat.le_of_ble_eq_true rfl, by show _ ≤ 601024; omega, by show _ ≤ 7293034; omega⟩) (fun r_40 ah_41 H_42 L_43 st_44 hp hw hst => ?_)
      obtain ⟨rfl, rfl⟩ := hp
      rw [show (upd q 0 2) 0 = 2 from upd_e] at hst
      have hst : st_44 = [.int 2] := hst
      subst hst
      refine lv_iload hx hb dL_law_122 (lv_at hl 1 rfl) ?_
      refine lv_icmp_eq (tgt := 129) hx hb dL_law_124 (by decide) (fun c_45 => ?_) (fun c_45 => ?_)
      · skip
        refine lv_iload hx hb dL_law_129 (lv_at hl 1 rfl) ?_
        refine lv_if_ne (tgt := 146) hx hb dL_law_131 (by decide) (fun c_46 => ?_) (fun c_46 => ?_)
        · skip
          refine lv_goto (tgt := 385) hx hb dL_law_146 (by decide) ?_
          exact kk ls ah_36 _ _ _ _ _ _ (lw_same hj hm hI ho hS hcnt (q2 := upd q 0 2) (fun i h1 h2 => upd_n (by omega)) eah_36) hw ((by cases jd <;> simp at hcb hsb ⊢ <;> omega)) ((by cases jd <;> simp at hcb hsb ⊢ <;> omega)) (lv_sub hl [2, 3, 4, 5, 6] rfl)
        · exact absurd c_46 (by decide)
      · exact absurd c_45 (by decide)
    · skip
      exfalso
      exact m2 ((take_e hI).symm.trans hP.2)
    · skip
      exfalso
      exact m2 ((take_e hI).symm.trans hP.2)
  · skip
    have hP : (¬ (xs (3 * k + 1)) < 1 ∧ (xs (3 * k + 1)) ≤ 7) ∧ ¬ shTake f ns no (xs (3 * k + 1)) = false ∧ ¬ 2 * ns + 1 * nr ≤ 4094 := (by rcases hpx with ⟨h9, -⟩ | ⟨h9, -⟩ | ⟨-, h9⟩; exact absurd h9 (by decide); exact absurd h9 (by decide); exact h9)
    have hst : st_6 = [.int 3] := hst
    subst hst
    refine lv_istore (lv' := [(5, .int 3), (4, .int (nI (3 * k))), (3, .ref out), (2, .ref mo), (1, .ref sj), (0, .ref b)]) hx hb dL_law_104 hl (by decide) rfl (fun ls hl => ?_)
    refine lv_aload_n hx hb dL_law_106 rfl (lv_at hl 3 rfl) ?_
    refine lv_aload_n hx hb dL_law_107 rfl (lv_at hl 5 rfl) ?_
    refine lv_iload hx hb dL_law_108 (lv_at hl 1 rfl) ?_
    refine lv_iconst (v := 1) hx hb dL_law_110 (by decide) ?_
    refine lv_iadd hx hb dL_law_111 ?_
    refine lv_topi (fun t_47 et_47 => ?_)
    obtain rfl : t_47 = nI (3 * k + 1) := et_47.trans (nI_c _ 1)
    refine h_sld hx hb hXX hbl hbA hw (j := (3 * k + 1)) (by omega) (by omega) dL_law_112 ?_
    refine h_callV (n := 1) (ci := 10) (b := mo) (As := [.int (xs (3 * k + 1))]) (rest := []) ⟨hx, hb, hml, hown, hts⟩ hK hw (c_X10_open l D dT ah9 H_4.size mo AR q g hm ns _ np nr no hN FG RC PF PC (f 0) (f 1) PA hMS OP hq (xs (3 * k + 1))) ko_X10_open km_L_51 ki_X10_open ks_X10_open kn_X10 (by decide +kernel) rfl hm.1 rfl hl.1 rfl (by simp [Value.category]) dL_law_113 (by rw [hR]; exact ⟨rfl, rfl, Nat.le_of_ble_eq_true rfl, Nat.le_of_ble_eq_true rfl, by show _ ≤ 601024; omega, by show _ ≤ 7293034; omega⟩) (fun r_48 ah_49 H_50 L_51 st_52 hp hw hst => ?_)
    rcases hp with ⟨m1, rfl, eah_49⟩ | ⟨m1, m2, rfl, eah_49⟩ | ⟨m1, m2, m3, rfl, eah_49⟩ | ⟨m1, m2, m3, rfl, q2, g2, hm2, hN2, hq0, k0, k1, k2, k3, k4, k5, k6, k11, kr, hFr2⟩
    · skip
      exfalso
      exact (x17.mp m1).elim (fun h9 => hP.1.1 h9) (fun h9 => h9 hP.1.2)
    · skip
      exfalso
      exact hP.2.1 ((take_e hI).trans m2)
    · skip
      have hm2 := moA_q hm eah_49
      have hst : st_52 = [.int 0] := hst
      subst hst
      refine lv_istore (lv' := [(6, .int 0), (5, .int 3), (4, .int (nI (3 * k))), (3, .ref out), (2, .ref mo), (1, .ref sj), (0, .ref b)]) hx hb dL_law_116 hl (by decide) rfl (fun ls hl => ?_)
      refine lv_aload_n hx hb dL_law_118 rfl (lv_at hl 4 rfl) ?_
      refine h_callV (n := 0) (ci := 10) (b := mo) (As := []) (rest := []) ⟨hx, hb, hml, hown, hts⟩ hK hw (c_X10_thrown l D dT ah_49 H_50.size mo AR (upd q 0 3) g hm2) ko_X10_thrown km_L_52 ki_X10_thrown ks_X10_thrown kn_X10 (by decide +kernel) rfl hm2.1 rfl hl.1 rfl (by simp [Value.category]) dL_law_119 (by rw [hR]; exact ⟨rfl, rfl, Nat.le_of_ble_eq_true rfl, Nat.le_of_ble_eq_true rfl, by show _ ≤ 601024; omega, by show _ ≤ 7293034; omega⟩) (fun r_53 ah_54 H_55 L_56 st_57 hp hw hst => ?_)
      obtain ⟨rfl, rfl⟩ := hp
      rw [show (upd q 0 3) 0 = 3 from upd_e] at hst
      have hst : st_57 = [.int 3] := hst
      subst hst
      refine lv_iload hx hb dL_law_122 (lv_at hl 1 rfl) ?_
      refine lv_icmp_eq (tgt := 129) hx hb dL_law_124 (by decide) (fun c_58 => ?_) (fun c_58 => ?_)
      · skip
        refine lv_iload hx hb dL_law_129 (lv_at hl 1 rfl) ?_
        refine lv_if_ne (tgt := 146) hx hb dL_law_131 (by decide) (fun c_59 => ?_) (fun c_59 => ?_)
        · skip
          refine lv_goto (tgt := 385) hx hb dL_law_146 (by decide) ?_
          exact kk ls ah_49 _ _ _ _ _ _ (lw_same hj hm hI ho hS hcnt (q2 := upd q 0 3) (fun i h1 h2 => upd_n (by omega)) eah_49) hw ((by cases jd <;> simp at hcb hsb ⊢ <;> omega)) ((by cases jd <;> simp at hcb hsb ⊢ <;> omega)) (lv_sub hl [2, 3, 4, 5, 6] rfl)
        · exact absurd c_59 (by decide)
      · exact absurd c_58 (by decide)
    · skip
      exfalso
      have := hP.2.2; omega

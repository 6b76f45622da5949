/-! The law's steps -/
/-- what the law's body knows of the machine -/
def lwC (p : Program) (s : State) (m : MethodId) (meth : Method) (c : Code) (D : va_G) (dT : Nat → ClassId) (args : Array Value) (b L : Nat) (xs : Nat → Int32) (ah : hA) : Prop :=
  p.tables.exec = Jvm.exec ∧ c.code = cL_law ∧ c.maxLocals = 7 ∧ s.vm.findClass RL = some m.cls ∧ (∀ w ∈ hAll, w.before args s = true) ∧ hC D dT s ∧ hX ah s.heap.size s ∧ hY s ∧ va_X b L xs s s.heap ∧ b < s.heap.size ∧ ¬ hFr ah s.heap.size b
section
variable {p : Program} {l : Launch} {e : Env} {R : Room} {s : State} {m : MethodId} {args : Array Value} {below : List Frame} {meth : Method} {c : Code} {H : Heap} {locs : List Loc} {cells slots : Nat} {Q : State → Prop} {cc : ByteArray} {pc : Nat} {ls : Array Slot} {rest : List Value} {D : va_G} {ah0 ah : hA}
theorem h_sld (hexec : p.tables.exec = Jvm.exec) (hb : c.code = cc) {b L j : Nat} {xs : Nat → Int32} (hX : va_X b L xs s s.heap) (hbl : b < s.heap.size) (hbA : ¬ hFr ah0 s.heap.size b) (hw : hW D ah0 s.heap ah H locs) (hj : j < L) (hL : L < 2 ^ 31) (hdg : decode cc pc = .ok (.iaload, 1))
    (kk : W p l e R s m args below meth c H locs cells slots Q (F0 m (pc + 1) ls (.int (xs j) :: rest))) : W p l e R s m args below meth c H locs cells slots Q (F0 m pc ls (.int (nI j) :: .ref b :: rest)) := by
  refine va_sld hexec hb hX hbl hbA hw.2.1 (vp_in_nI hj hL) hdg ?_
  rw [nI_clamp (by omega)]; exact kk
end
section
variable {dT : Nat → ClassId} {ah : hA} {sj sh fd ins pa mt : Nat} {RO RA cap : Nat → Nat} {ns nc np nr no : Nat} {f g : Nat → Nat → Int32} {q : Nat → Int32} {wh : Int32} {pl : Nat → Int32} {jd : Bool} {FC FP FG RC PF PC RP RN OP : Nat → Nat} {PA : Nat → Int32}
theorem rw_1 {n c : Nat} (h : n ≤ c) (hn : n ≤ 512) : rwG n c ≤ 1024 := by unfold rwG; split <;> omega
theorem rw_b (hj : cjA dT ah sj sh fd ins pa mt RO RA cap ns nc np no nr f wh pl jd) : (ns ≤ 512 → rwG ns (cap 0) ≤ 1024 ∧ rwG ns (cap 1) ≤ 1024 ∧ rwG ns (cap 2) ≤ 1024) ∧ (nc ≤ 512 → rwG nc (cap 3) ≤ 1024) ∧ (np ≤ 512 → rwG np (cap 4) ≤ 1024 ∧ rwG np (cap 5) ≤ 1024) ∧ (no ≤ 512 → rwG no (cap 6) ≤ 1024) := by
  have h := fun i hi => (hj.2.2.1.2.1 i hi).2.2.1
  exact ⟨fun h1 => ⟨rw_1 (h 0 (by decide)) h1, rw_1 (h 1 (by decide)) h1, rw_1 (h 2 (by decide)) h1⟩, fun h1 => rw_1 (h 3 (by decide)) h1, fun h1 => ⟨rw_1 (h 4 (by decide)) h1, rw_1 (h 5 (by decide)) h1⟩, fun h1 => rw_1 (h 6 (by decide)) h1⟩
theorem kind_3 (h : jI ns nc np nr no f g q wh pl jd FC FP FG RC PF PC RP RN OP PA) (hk : shKind f ns no = 3) : 0 < no ∧ f 0 (OP (no - 1)) = 3 := by
  have hn : 0 < no := by
    apply Nat.pos_of_ne_zero; intro h0; subst h0; rw [kind_0] at hk; exact absurd hk (by decide)
  exact ⟨hn, (kind_e h hn).symm.trans hk⟩
theorem kind_n (h : jI ns nc np nr no f g q wh pl jd FC FP FG RC PF PC RP RN OP PA) (h1 : no = 0 ∨ ¬ f 0 (OP (no - 1)) = 3) : ¬ shKind f ns no = 3 := fun hk => by
  have h2 := kind_3 h hk
  exact h1.elim (fun h9 => by omega) (fun h9 => h9 h2.2)
theorem kind_y (h : jI ns nc np nr no f g q wh pl jd FC FP FG RC PF PC RP RN OP PA) (h1 : ¬ no = 0 ∧ f 0 (OP (no - 1)) = 3) : shKind f ns no = 3 := (kind_e h (by omega)).trans h1.2
theorem tp_n (h : jI ns nc np nr no f g q wh pl jd FC FP FG RC PF PC RP RN OP PA) (h1 : no = 0 ∨ mCan (f 0) PC RC (OP (no - 1)) = false) : shTakeP f ns nc np no = false := by
  by_cases h0 : no = 0
  · subst h0; exact takeP_0
  · exact (takeP_e h (by omega)).trans (h1.resolve_left h0)
theorem tp_y (h : jI ns nc np nr no f g q wh pl jd FC FP FG RC PF PC RP RN OP PA) (h1 : 0 < no ∧ ¬ mCan (f 0) PC RC (OP (no - 1)) = false) : ¬ shTakeP f ns nc np no = false := fun h9 => h1.2 ((takeP_e h h1.1).symm.trans h9)
theorem co_bd {x : Int32} (h : ¬ isCo x = false) : bd x := by
  have := wiB_t.mp (eq_true_of_ne_false (show ¬ wiB x (-1000000000) 1000000000 = false from h))
  have e1 : (-1000000000 : Int32).toInt = -1000000000 := rfl
  have e2 : (1000000000 : Int32).toInt = 1000000000 := rfl
  unfold bd; omega
theorem wh_n (h : ns = 0 ∨ 0 < no) : shWhole ns no = false := by
  unfold shWhole
  by_cases h0 : ns ≤ 0
  · rw [if_pos h0]
  · rw [if_neg h0, if_neg (by omega)]
theorem wh_y (h : ¬ ns = 0 ∧ no = 0) : ¬ shWhole ns no = false := by unfold shWhole; rw [if_neg (by omega), if_pos h.2]; decide
theorem pl_w (h : jI ns nc np nr no f g q wh pl jd FC FP FG RC PF PC RP RN OP PA) {x : Int32} (h1 : ¬ x < 0) (h2 : x < 7) : fdWhere pl x = g 12 x.toNatClampNeg := by
  have h3 : ¬ nI 7 ≤ x := fun h9 => by rw [i32_le] at h9; rw [i32_lt] at h2; have e1 : (7 : Int32).toInt = 7 := rfl; have e2 : (nI 7).toInt = 7 := rfl; omega
  unfold fdWhere
  rw [if_neg h1, if_neg h3]
  exact (h.2.2.2.2.2 _ (nI_cll h1 h3 (by decide))).symm
/-- judge -/
theorem jI_judge (h : jI ns nc np nr no f g q wh pl jd FC FP FG RC PF PC RP RN OP PA) (hw : ¬ ns = 0 ∧ no = 0) {mo : Nat} {AR : Nat → Nat} {ah1 ah2 : hA} {q2 : Nat → Int32} {g2 : Nat → Nat → Int32} {v9 wh2 : Int32} {pl2 : Nat → Int32} (hK : moK dT ah1 ah2 mo AR (upd q 0 0) g q2 g2) (hJ1 : jd = true → wh2 = wh ∧ pl2 = pl) (hJ2 : jd = false → jgD f ns FC FP pl wh2 pl2)
    (hR : moRs (firstO ns (jgS (f 4) (f 5) RP RN ns FG RC PF PC (f 0) (f 1) PA (fillF (g 12) (-1) 7))) (fillF (g 12) (-1) 7) v9 (g2 12)) : v9 = wh2 ∧ jI ns nc np nr no f g2 q2 wh2 pl2 true FC FP FG RC PF PC RP RN OP PA := by
  obtain ⟨pl0, hp0, hjg⟩ : ∃ pl0 : Nat → Int32, (∀ j, j < 7 → pl0 j = -1) ∧ jgD f ns FC FP pl0 wh2 pl2 := by
    cases jd with
    | false => exact ⟨pl, (h.2.2.2.1 rfl).2, hJ2 rfl⟩
    | true => obtain ⟨-, -, pl0, a1, a2⟩ := h.2.2.2.2.1 rfl; obtain ⟨b1, b2⟩ := hJ1 rfl; exact ⟨pl0, a1, by rw [b1, b2]; exact a2⟩
  have hF : ∀ j, j < 7 → fillF (g 12) (-1) 7 j = -1 := fun j hj => if_pos hj
  obtain ⟨hag, hz⟩ := jud_e (pl2 := fillF (g 12) (-1) 7) h.1 (fun j hj => (hp0 j hj).trans (hF j hj).symm) hF hjg
  have key : v9 = wh2 ∧ ∀ j, j < 7 → g2 12 j = pl2 j := by
    cases ho : firstO ns (jgS (f 4) (f 5) RP RN ns FG RC PF PC (f 0) (f 1) PA (fillF (g 12) (-1) 7)) with
    | none =>
      rw [ho] at hag hR
      obtain ⟨c1, c2⟩ := hR
      by_cases h0 : wh2 = 0
      · exact ⟨c1.trans h0.symm, fun j hj => by rw [c2, hF j hj, ← hz h0, hp0 j hj]⟩
      · rw [if_neg h0] at hag; exact hag.elim
    | some z =>
      rw [ho] at hag hR
      obtain ⟨c1, -, c2⟩ := hR
      by_cases h0 : wh2 = 0
      · rw [if_pos h0] at hag; exact hag.elim
      · rw [if_neg h0] at hag
        exact ⟨c1.trans hag.1.symm, fun j hj => by rw [c2]; exact (hag.2 j hj).symm⟩
  refine ⟨key.1, ?_⟩
  obtain ⟨⟨v, hS, hX, hRr, hB, hrest⟩, ⟨n1, n2, n3, n4, n5, n6⟩, ⟨a1, a2, a3, a4⟩, b4, b5, b6⟩ := h
  have hq : ∀ i, 1 ≤ i → i < 6 → q2 i = q i := fun i h1 h2 => (hK.2.1 i h2).trans (upd_n (by omega))
  refine ⟨⟨v, moS_k hK hS, moX_k hK hX, moR_k hK hRr, hB, hrest⟩, ⟨(hq 1 (by decide) (by decide)).trans n1, (hq 2 (by decide) (by decide)).trans n2, (hq 3 (by decide) (by decide)).trans n3, (hq 4 (by decide) (by decide)).trans n4, (hq 5 (by decide) (by decide)).trans n5, n6⟩, ⟨fun j hj => by rw [hK.2.2.1 11 (by decide)]; exact a1 j hj, a2, a3, a4⟩, (fun h9 => by cases h9), fun _ => ⟨hw.2, by omega, pl0, hp0, hjg⟩, key.2⟩
theorem jd_take (h : jI ns nc np nr no f g q wh pl jd FC FP FG RC PF PC RP RN OP PA) {x : Int32} (ht : ¬ mTake (f 0) OP ns no x = false) : jd = false := by
  have htt := mTake_t ht
  cases jd with
  | false => rfl
  | true => have := h.2.2.2.2.1 rfl; omega
theorem nc_b {x : Int32} {nc2 : Nat} {P : Prop} (h : (x = 1 ∨ x = 2) ∧ nc2 = nc + 1 ∧ P ∨ ¬ (x = 1 ∨ x = 2) ∧ nc2 = nc) : nc2 ≤ nc + 1 := by rcases h with ⟨-, h, -⟩ | ⟨-, h⟩ <;> omega
theorem jg_ln (h : jI ns nc np nr no f g q wh pl jd FC FP FG RC PF PC RP RN OP PA) : ∀ si, si < ns → rwGet (f 0) ns (nI si) = 2 → FC si < nc := fun si hsi h2 => by
  have hb := jI_b h
  rw [rwGet_n hsi (by omega)] at h2
  obtain ⟨hV, -, -, -, -, h6, -⟩ := h.1
  have h1 := ((h6 si hsi).1 (Or.inr h2)).1
  have h3 : FC (si + 1) ≤ nc := by rw [← hV.2.1]; exact up_mono hV.2.2.2.2.1 hsi (Nat.le_refl _)
  omega
theorem jg_m3 (h : jI ns nc np nr no f g q wh pl jd FC FP FG RC PF PC RP RN OP PA) : ∀ j, j < ns → rwGet (f 0) ns (rwGet (f 1) ns (nI j)) = 6 → rwGet (f 0) ns (nI j) = 3 := fun j hj h6 => by
  have hb := jI_b h
  obtain ⟨-, -, -, -, -, -, -, h8, h9⟩ := h.1
  rw [rwGet_n hj (by omega)] at h6 ⊢
  rcases h8 j hj with hw | ⟨w, hw1, hw2⟩
  · rw [hw, show rwGet (f 0) ns (-1) = 0 from if_pos (by decide)] at h6; exact absurd h6 (by decide)
  · rw [hw2, rwGet_n (show w < ns by omega) (by omega)] at h6
    exact (h9 w j hw1 hj h6 hw2).2.1
end
set_option maxHeartbeats 4000000 in
set_option maxRecDepth 100000 in
theorem st_open {p : Program} {l : Launch} {e : Env} {R : Room} {s : State} {m : MethodId} {args : Array Value} {below : List Frame} {meth : Method} {c : Code} {Q : State → Prop} {D : va_G} {dT : Nat → ClassId} {b L : Nat} {xs : Nat → Int32} (hlt : l.stackTraces = false) (hR : R = room_1) (ah : hA) (hC9 : lwC p s m meth c D dT args b L xs ah) (hL : L ≤ 1536) {k sj mo out cr sr : Nat} (hkL : 3 * k + 3 ≤ L) {ah9 : hA} {H9 : Heap} {L9 : List Loc} {ls : Array Slot} {cl9 sl9 : Nat} (hI : lwI dT ah9 sj mo out k cr sr) (hw : hW D ah s.heap ah9 H9 L9) (hcb : cl9 + cr ≤ 100 + 13 * k) (hsb : sl9 + sr ≤ 40000 + 5143 * k) (hl : lv_has ls 7 [(4, .int (nI (3 * k))), (3, .ref out), (2, .ref mo), (1, .ref sj), (0, .ref b)])
    (kk : ∀ (ls : Array Slot) (ah2 : hA) (H2 : Heap) (L2 : List Loc) (cl2 sl2 cr2 sr2 : Nat), lwI dT ah2 sj mo out (k + 1) cr2 sr2 → hW D ah s.heap ah2 H2 L2 → cl2 + cr2 ≤ 100 + 13 * (k + 1) → sl2 + sr2 ≤ 40000 + 5143 * (k + 1) → lv_has ls 7 [(4, .int (nI (3 * k))), (3, .ref out), (2, .ref mo), (1, .ref sj), (0, .ref b)] → W p l e R s m args below meth c H2 L2 cl2 sl2 Q (F0 m 385 ls [])) : W p l e R s m args below meth c H9 L9 cl9 sl9 Q (F0 m 93 ls []) := by
  obtain ⟨hx, hb, hml, hown, hts, hK, hX9, hY9, hXX, hbl, hbA⟩ := hC9
  obtain ⟨sh, fd, ins, pa, mt, RO, RA, cap, AR, ns, nc, np, nr, no, f, g, q, wh, pl, jd, FC, FP, FG, RC, PF, PC, RP, RN, OP, PA, fL, hj, hm, hI, ho, hS, hcnt, rfl, rfl⟩ := hI
  have hbb := jI_b hI
  have hN := hI.2.1
  have hMS := hI.1.2.1
  have hq := hOQ hI
  have hrw := rw_b hj
  refine lv_aload_n hx hb dL_law_93 rfl (lv_at hl 3 rfl) ?_
  refine lv_aload_n hx hb dL_law_94 rfl (lv_at hl 4 rfl) ?_
  refine lv_iload hx hb dL_law_95 (lv_at hl 0 rfl) ?_
  refine lv_iconst (v := 1) hx hb dL_law_97 (by decide) ?_
  refine lv_iadd hx hb dL_law_98 ?_
  refine lv_topi (fun t_1 et_1 => ?_)
  obtain rfl : t_1 = nI (3 * k + 1) := et_1.trans (nI_c _ 1)
  refine h_sld hx hb hXX hbl hbA hw (j := (3 * k + 1)) (by omega) (by omega) dL_law_99 ?_
  refine lv_aload_n hx hb dL_law_100 rfl (lv_at hl 1 rfl) ?_
  refine h_callSH (n := 3) (As := [.ref sj, .int (xs (3 * k + 1)), .ref out]) (rest := []) ⟨hx, hb, hml, hown, hts⟩ hK hX9 hY9 hw (c_L_open l D dT ah9 H9.size sj out _ hj.1 fL (xs (3 * k + 1)) 6 124 5 (6 + (rwG ns (cap 1) + rwG no (cap 6) + rwG ns (cap 0) + rwG ns (cap 2) + rwG nc (cap 3))) _ _ (c_X9_open l D dT ah9 H9.size hlt sj sh fd ins pa mt RO RA cap ns nc np no nr f wh pl jd hj (by omega) (by omega) (by omega) (by omega) (by omega) (xs (3 * k + 1))) (fun r9 ah9 h9 => ⟨_, h9.2.1, by obtain ⟨-, -, RA2, cap2, f2, nc2, -, hk9, -⟩ := h9; exact o_keep hj hk9 ho⟩) (fun E h9 => by rcases h9 with h9 | h9 | h9; exact Or.inl h9.1; exact Or.inr (Or.inl h9.1); exact Or.inr (Or.inr (h9.1)))) ko_L_open km_L_46 kt_L_open kn_L (by decide +kernel) rfl hl.1 rfl (by simp [Value.category]) dL_law_101 (by rw [hR]; exact ⟨rfl, rfl, Nat.le_of_ble_eq_true rfl, Nat.le_of_ble_eq_true rfl, by show _ ≤ 601024; omega, by show _ ≤ 7293034; omega⟩) (fun r_2 ah_3 H_4 L_5 st_6 hp hw hst => ?_)
  rcases hp with ⟨v, ahX, hpX, rfl, e1⟩ | ⟨hpx, rfl, rfl⟩ | ⟨hpx, rfl, rfl⟩ | ⟨hpx, rfl, rfl⟩
  · skip
    obtain ⟨⟨hr1, hr2, hr3⟩, hv, RA2, cap2, f2, nc2, hj2, hkK, hRA2, hD2, f20, f21, f22, f26, hnc2⟩ := hpX
    cases hv
    have hoX := o_keep hj hkK ho
    have hmX := m_keep hj hm hS hkK
    have hm1 : moA dT ah_3 mo AR q g := by rw [e1]; exact out_up hmX hoX
    have hj1 : cjA dT ah_3 sj sh fd ins pa mt RO RA2 cap2 (ns + 1) nc2 np (no + 1) nr f2 wh pl jd := by rw [e1]; exact out_cj hj2 hoX
    have ho1 : ah_3 out = some (.inl (dT 1, 1, .inr (.inl (vp_updL fL 0 (nI (no + 1)).toInt64)))) := by rw [e1]; exact hup_s
    have hst : st_6 = [.int 0] := hst
    subst hst
    refine lv_istore (lv' := [(5, .int 0), (4, .int (nI (3 * k))), (3, .ref out), (2, .ref mo), (1, .ref sj), (0, .ref b)]) hx hb dL_law_104 hl (by decide) rfl (fun ls hl => ?_)
    refine lv_aload_n hx hb dL_law_106 rfl (lv_at hl 3 rfl) ?_
    refine lv_aload_n hx hb dL_law_107 rfl (lv_at hl 5 rfl) ?_
    refine lv_iload hx hb dL_law_108 (lv_at hl 1 rfl) ?_
    refine lv_iconst (v := 1) hx hb dL_law_110 (by decide) ?_
    refine lv_iadd hx hb dL_law_111 ?_
    refine lv_topi (fun t_7 et_7 => ?_)
    obtain rfl : t_7 = nI (3 * k + 1) := et_7.trans (nI_c _ 1)
    refine h_sld hx hb hXX hbl hbA hw (j := (3 * k + 1)) (by omega) (by omega) dL_law_112 ?_
    refine h_callV (n := 1) (ci := 10) (b := mo) (As := [.int (xs (3 * k + 1))]) (rest := []) ⟨hx, hb, hml, hown, hts⟩ hK hw (c_X10_open l D dT ah_3 H_4.size mo AR q g hm1 ns _ np nr no hN FG RC PF PC (f 0) (f 1) PA hMS OP hq (xs (3 * k + 1))) ko_X10_open km_L_51 ki_X10_open ks_X10_open kn_X10 (by decide +kernel) rfl hm1.1 rfl hl.1 rfl (by simp [Value.category]) dL_law_113 (by rw [hR]; exact ⟨rfl, rfl, Nat.le_of_ble_eq_true rfl, Nat.le_of_ble_eq_true rfl, by show _ ≤ 601024; omega, by show _ ≤ 7293034; omega⟩) (fun r_8 ah_9 H_10 L_11 st_12 hp hw hst => ?_)
    rcases hp with ⟨m1, rfl, eah_9⟩ | ⟨m1, m2, rfl, eah_9⟩ | ⟨m1, m2, m3, rfl, eah_9⟩ | ⟨m1, m2, m3, rfl, q2, g2, hm2, hN2, hq0, k0, k1, k2, k3, k4, k5, k6, k11, kr, hFr2⟩
    · skip
      exfalso
      exact (x17.mp m1).elim (fun h9 => hr1.1 h9) (fun h9 => h9 hr1.2)
    · skip
      exfalso
      exact hr2 ((take_e hI).trans m2)
    · skip
      exfalso
      omega
    · skip
      have htk : ¬ mTake (f 0) OP ns no (xs (3 * k + 1)) = false := m2
      have hjd : jd = false := jd_take hI htk
      subst hjd
      simp only [Bool.false_eq_true, if_false] at hcb hsb
      have ho2 := oc_keep hm1 hFr2 ho1
      have hI2 := jI_open hI htk hN2 hD2 f20 (f21.trans (out_t hI)) f22 f26 hnc2 k0 k1 k2 k3 k4 k5 k6 k11 kr
      have hst : st_12 = [.int (nI (no + 1))] := hst
      subst hst
      refine lv_istore (lv' := [(6, .int (nI (no + 1))), (5, .int 0), (4, .int (nI (3 * k))), (3, .ref out), (2, .ref mo), (1, .ref sj), (0, .ref b)]) hx hb dL_law_116 hl (by decide) rfl (fun ls hl => ?_)
      refine lv_aload_n hx hb dL_law_118 rfl (lv_at hl 4 rfl) ?_
      refine h_callV (n := 0) (ci := 10) (b := mo) (As := []) (rest := []) ⟨hx, hb, hml, hown, hts⟩ hK hw (c_X10_thrown l D dT ah_9 H_10.size mo AR q2 g2 hm2) ko_X10_thrown km_L_52 ki_X10_thrown ks_X10_thrown kn_X10 (by decide +kernel) rfl hm2.1 rfl hl.1 rfl (by simp [Value.category]) dL_law_119 (by rw [hR]; exact ⟨rfl, rfl, Nat.le_of_ble_eq_true rfl, Nat.le_of_ble_eq_true rfl, by show _ ≤ 601024; omega, by show _ ≤ 7293034; omega⟩) (fun r_13 ah_14 H_15 L_16 st_17 hp hw hst => ?_)
      obtain ⟨rfl, rfl⟩ := hp
      rw [show q2 0 = 0 from hq0] at hst
      have hst : st_17 = [.int 0] := hst
      subst hst
      refine lv_iload hx hb dL_law_122 (lv_at hl 1 rfl) ?_
      refine lv_icmp_eq (tgt := 129) hx hb dL_law_124 (by decide) (fun c_18 => ?_) (fun c_18 => ?_)
      · skip
        refine lv_iload hx hb dL_law_129 (lv_at hl 1 rfl) ?_
        refine lv_if_ne (tgt := 146) hx hb dL_law_131 (by decide) (fun c_19 => ?_) (fun c_19 => ?_)
        · exact absurd c_19 (by decide)
        · skip
          refine lv_aload_n hx hb dL_law_134 rfl (lv_at hl 3 rfl) ?_
          refine lv_iconst (v := 0) hx hb dL_law_135 (by decide) ?_
          refine h_lald hx hb hK hw ho2 0 (by decide) (by omega) (by omega) dL_law_136 ?_
          rw [show (vp_updL fL 0 (nI (no + 1)).toInt64) 0 = (nI (no + 1)).toInt64 from rfl]
          refine lv_iload hx hb dL_law_137 (lv_at hl 0 rfl) ?_
          refine lv_i2l (v := (nI (no + 1)).toInt64) hx hb dL_law_139 rfl ?_
          refine W.lcmp hx hb dL_law_140 ?_
          refine lv_if_eq (tgt := 146) hx hb dL_law_141 (by decide) (fun c_20 => ?_) (fun c_20 => ?_)
          · skip
            have c_20 : (nI (no + 1)).toInt64 = (nI (no + 1)).toInt64 := lgc_eq.mp c_20
            refine lv_goto (tgt := 385) hx hb dL_law_146 (by decide) ?_
            exact kk ls ah_9 _ _ _ _ _ _ (⟨sh, fd, ins, pa, mt, RO, RA2, cap2, AR, ns + 1, nc2, np, nr, no + 1, f2, g2, q2, wh, pl, false, _, _, _, _, _, _, _, _, _, _, _, c_keep hj1 hm1 (sep_2 hm hS hRA2) hFr2, hm2, hI2, oc_keep hm1 hFr2 ho1, sep_2 hm hS hRA2, by omega, rfl, rfl⟩) hw (by have := nc_b hnc2; simp only [Bool.false_eq_true, if_false]; omega) (by have := nc_b hnc2; simp only [Bool.false_eq_true, if_false]; omega) (lv_sub hl [2, 3, 4, 5, 6] rfl)
          · skip
            have c_20 : ¬ ((nI (no + 1)).toInt64 = (nI (no + 1)).toInt64) := (not_congr lgc_eq).mp c_20
            exfalso
            exact absurd rfl c_20
      · exact absurd c_18 (by decide)
  · skip
    have hP : ((xs (3 * k + 1)) < 1 ∨ ¬ (xs (3 * k + 1)) ≤ 7) := (by rcases hpx with ⟨-, h9⟩ | ⟨h9, -⟩ | ⟨h9, -⟩; exact h9; exact absurd h9 (by decide); exact absurd h9 (by decide))
    have hst : st_6 = [.int 1] := hst
    subst hst
    refine lv_istore (lv' := [(5, .int 1), (4, .int (nI (3 * k))), (3, .ref out), (2, .ref mo), (1, .ref sj), (0, .ref b)]) hx hb dL_law_104 hl (by decide) rfl (fun ls hl => ?_)
    refine lv_aload_n hx hb dL_law_106 rfl (lv_at hl 3 rfl) ?_
    refine lv_aload_n hx hb dL_law_107 rfl (lv_at hl 5 rfl) ?_
    refine lv_iload hx hb dL_law_108 (lv_at hl 1 rfl) ?_
    refine lv_iconst (v := 1) hx hb dL_law_110 (by decide) ?_
    refine lv_iadd hx hb dL_law_111 ?_
    refine lv_topi (fun t_21 et_21 => ?_)
    obtain rfl : t_21 = nI (3 * k + 1) := et_21.trans (nI_c _ 1)
    refine h_sld hx hb hXX hbl hbA hw (j := (3 * k + 1)) (by omega) (by omega) dL_law_112 ?_
    refine h_callV (n := 1) (ci := 10) (b := mo) (As := [.int (xs (3 * k + 1))]) (rest := []) ⟨hx, hb, hml, hown, hts⟩ hK hw (c_X10_open l D dT ah9 H_4.size mo AR q g hm ns _ np nr no hN FG RC PF PC (f 0) (f 1) PA hMS OP hq (xs (3 * k + 1))) ko_X10_open km_L_51 ki_X10_open ks_X10_open kn_X10 (by decide +kernel) rfl hm.1 rfl hl.1 rfl (by simp [Value.category]) dL_law_113 (by rw [hR]; exact ⟨rfl, rfl, Nat.le_of_ble_eq_true rfl, Nat.le_of_ble_eq_true rfl, by show _ ≤ 601024; omega, by show _ ≤ 7293034; omega⟩) (fun r_22 ah_23 H_24 L_25 st_26 hp hw hst => ?_)
    rcases hp with ⟨m1, rfl, eah_23⟩ | ⟨m1, m2, rfl, eah_23⟩ | ⟨m1, m2, m3, rfl, eah_23⟩ | ⟨m1, m2, m3, rfl, q2, g2, hm2, hN2, hq0, k0, k1, k2, k3, k4, k5, k6, k11, kr, hFr2⟩
    · skip
      have hm2 := moA_q hm eah_23
      have hst : st_26 = [.int 0] := hst
      subst hst
      refine lv_istore (lv' := [(6, .int 0), (5, .int 1), (4, .int (nI (3 * k))), (3, .ref out), (2, .ref mo), (1, .ref sj), (0, .ref b)]) hx hb dL_law_116 hl (by decide) rfl (fun ls hl => ?_)
      refine lv_aload_n hx hb dL_law_118 rfl (lv_at hl 4 rfl) ?_
      refine h_callV (n := 0) (ci := 10) (b := mo) (As := []) (rest := []) ⟨hx, hb, hml, hown, hts⟩ hK hw (c_X10_thrown l D dT ah_23 H_24.size mo AR (upd q 0 1) g hm2) ko_X10_thrown km_L_52 ki_X10_thrown ks_X10_thrown kn_X10 (by decide +kernel) rfl hm2.1 rfl hl.1 rfl (by simp [Value.category]) dL_law_119 (by rw [hR]; exact ⟨rfl, rfl, Nat.le_of_ble_eq_true rfl, Nat.le_of_ble_eq_true rfl, by show _ ≤ 601024; omega, by show _ ≤ 7293034; omega⟩) (fun r_27 ah_28 H_29 L_30 st_31 hp hw hst => ?_)
      obtain ⟨rfl, rfl⟩ := hp
      rw [show (upd q 0 1) 0 = 1 from upd_e] at hst
      have hst : st_31 = [.int 1] := hst
      subst hst
      refine lv_iload hx hb dL_law_122 (lv_at hl 1 rfl) ?_
      refine lv_icmp_eq (tgt := 129) hx hb dL_law_124 (by decide) (fun c_32 => ?_) (fun c_32 => ?_)
      · skip
        refine lv_iload hx hb dL_law_129 (lv_at hl 1 rfl) ?_
        refine lv_if_ne (tgt := 146) hx hb dL_law_131 (by decide) (fun c_33 => ?_) (fun c_33 => ?_)
        · skip
          refine lv_goto (tgt := 385) hx hb dL_law_146 (by decide) ?_
          exact kk ls ah_23 _ _ _ _ _ _ (lw_same hj hm hI ho hS hcnt (q2 := upd q 0 1) (fun i h1 h2 => upd_n (by omega)) eah_23) hw ((by cases jd <;> simp at hcb hsb ⊢ <;> omega)) ((by cases jd <;> simp at hcb hsb ⊢ <;> omega)) (lv_sub hl [2, 3, 4, 5, 6] rfl)
        · exact absurd c_33 (by decide)
      · exact absurd c_32 (by decide)
    · skip
      exfalso
      exact m1 (x17.mpr hP)
    · skip
      exfalso
      exact m1 (x17.mpr hP)
    · skip
      exfalso
      exact m1 (x17.mpr hP)
  · skip
    have hP : (¬ (xs (3 * k + 1)) < 1 ∧ (xs (3 * k + 1)) ≤ 7) ∧ shTake f ns no (xs (3 * k + 1)) = false := (by rcases hpx with ⟨h9, -⟩ | ⟨-, h9⟩ | ⟨h9, -⟩; exact absurd h9 (by decide); exact h9; exact absurd h9 (by decide))
    have hst : st_6 = [.int 2] := hst
    subst hst
    refine lv_istore (lv' := [(5, .int 2), (4, .int (nI (3 * k))), (3, .ref out), (2, .ref mo), (1, .ref sj), (0, .ref b)]) hx hb dL_law_104 hl (by decide) rfl (fun ls hl => ?_)
    refine lv_aload_n hx hb dL_law_106 rfl (lv_at hl 3 rfl) ?_
    refine lv_aload_n hx hb dL_law_107 rfl (lv_at hl 5 rfl) ?_
    refine lv_iload hx hb dL_law_108 (lv_at hl 1 rfl) ?_
    refine lv_iconst (v := 1) hx hb dL_law_110 (by decide) ?_
    refine lv_iadd hx hb dL_law_111 ?_
    refine lv_topi (fun t_34 et_34 => ?_)
    obtain rfl : t_34 = nI (3 * k + 1) := et_34.trans (nI_c _ 1)
    refine h_sld hx hb hXX hbl hbA hw (j := (3 * k + 1)) (by omega) (by omega) dL_law_112 ?_
    refine h_callV (n := 1) (ci := 10) (b := mo) (As := [.int (xs (3 * k + 1))]) (rest := []) ⟨hx, hb, hml, hown, hts⟩ hK hw (c_X10_open l D dT ah9 H_4.size mo AR q g hm ns _ np nr no hN FG RC PF PC (f 0) (f 1) PA hMS OP hq (xs (3 * k + 1))) ko_X10_open km_L_51 ki_X10_open ks_X10_open kn_X10 (by decide +kernel) rfl hm.1 rfl hl.1 rfl (by simp [Value.category]) dL_law_113 (by rw [hR]; exact ⟨rfl, rfl, Nat.le_of_ble_eq_true rfl, Nat.le_of_ble_eq_true rfl, by show _ ≤ 601024; omega, by show _ ≤ 7293034; omega⟩) (fun r_35 ah_36 H_37 L_38 st_39 hp hw hst => ?_)
    rcases hp with ⟨m1, rfl, eah_36⟩ | ⟨m1, m2, rfl, eah_36⟩ | ⟨m1, m2, m3, rfl, eah_36⟩ | ⟨m1, m2, m3, rfl, q2, g2, hm2, hN2, hq0, k0, k1, k2, k3, k4, k5, k6, k11, kr, hFr2⟩
    · skip
      exfalso
      exact (x17.mp m1).elim (fun h9 => hP.1.1 h9) (fun h9 => h9 hP.1.2)
    · skip
      have hm2 := moA_q hm eah_36
      have hst : st_39 = [.int 0] := hst
      subst hst
      refine lv_istore (lv' := [(6, .int 0), (5, .int 2), (4, .int (nI (3 * k))), (3, .ref out), (2, .ref mo), (1, .ref sj), (0, .ref b)]) hx hb dL_law_116 hl (by decide) rfl (fun ls hl => ?_)
      refine lv_aload_n hx hb dL_law_118 rfl (lv_at hl 4 rfl) ?_
      refine h_callV (n := 0) (ci := 10) (b := mo) (As := []) (rest := []) ⟨hx, hb, hml, hown, hts⟩ hK hw (c_X10_thrown l D dT ah_36 H_37.size mo AR (upd q 0 2) g hm2) ko_X10_thrown km_L_52 ki_X10_thrown ks_X10_thrown kn_X10 (by decide +kernel) rfl hm2.1 rfl hl.1 rfl (by simp [Value.category]) dL_law_119 (by rw [hR]; exact ⟨rfl, rfl, Nat.le_of_ble_eq_true rfl, Nat.le_of_ble_eq_true rfl, by show _ ≤ 601024; omega, by show _ ≤ 7293034; omega⟩) (fun r_40 ah_41 H_42 L_43 st_44 hp hw hst => ?_)
      obtain ⟨rfl, rfl⟩ := hp
      rw [show (upd q 0 2) 0 = 2 from upd_e] at hst
      have hst : st_44 = [.int 2] := hst
      subst hst
      refine lv_iload hx hb dL_law_122 (lv_at hl 1 rfl) ?_
      refine lv_icmp_eq (tgt := 129) hx hb dL_law_124 (by decide) (fun c_45 => ?_) (fun c_45 => ?_)
      · skip
        refine lv_iload hx hb dL_law_129 (lv_at hl 1 rfl) ?_
        refine lv_if_ne (tgt := 146) hx hb dL_law_131 (by decide) (fun c_46 => ?_) (fun c_46 => ?_)
        · skip
          refine lv_goto (tgt := 385) hx hb dL_law_146 (by decide) ?_
          exact kk ls ah_36 _ _ _ _ _ _ (lw_same hj hm hI ho hS hcnt (q2 := upd q 0 2) (fun i h1 h2 => upd_n (by omega)) eah_36) hw ((by cases jd <;> simp at hcb hsb ⊢ <;> omega)) ((by cases jd <;> simp at hcb hsb ⊢ <;> omega)) (lv_sub hl [2, 3, 4, 5, 6] rfl)
        · exact absurd c_46 (by decide)
      · exact absurd c_45 (by decide)
    · skip
      exfalso
      exact m2 ((take_e hI).symm.trans hP.2)
    · skip
      exfalso
      exact m2 ((take_e hI).symm.trans hP.2)
  · skip
    have hP : (¬ (xs (3 * k + 1)) < 1 ∧ (xs (3 * k + 1)) ≤ 7) ∧ ¬ shTake f ns no (xs (3 * k + 1)) = false ∧ ¬ 2 * ns + 1 * nr ≤ 4094 := (by rcases hpx with ⟨h9, -⟩ | ⟨h9, -⟩ | ⟨-, h9⟩; exact absurd h9 (by decide); exact absurd h9 (by decide); exact h9)
    have hst : st_6 = [.int 3] := hst
    subst hst
    refine lv_istore (lv' := [(5, .int 3), (4, .int (nI (3 * k))), (3, .ref out), (2, .ref mo), (1, .ref sj), (0, .ref b)]) hx hb dL_law_104 hl (by decide) rfl (fun ls hl => ?_)
    refine lv_aload_n hx hb dL_law_106 rfl (lv_at hl 3 rfl) ?_
    refine lv_aload_n hx hb dL_law_107 rfl (lv_at hl 5 rfl) ?_
    refine lv_iload hx hb dL_law_108 (lv_at hl 1 rfl) ?_
    refine lv_iconst (v := 1) hx hb dL_law_110 (by decide) ?_
    refine lv_iadd hx hb dL_law_111 ?_
    refine lv_topi (fun t_47 et_47 => ?_)
    obtain rfl : t_47 = nI (3 * k + 1) := et_47.trans (nI_c _ 1)
    refine h_sld hx hb hXX hbl hbA hw (j := (3 * k + 1)) (by omega) (by omega) dL_law_112 ?_
    refine h_callV (n := 1) (ci := 10) (b := mo) (As := [.int (xs (3 * k + 1))]) (rest := []) ⟨hx, hb, hml, hown, hts⟩ hK hw (c_X10_open l D dT ah9 H_4.size mo AR q g hm ns _ np nr no hN FG RC PF PC (f 0) (f 1) PA hMS OP hq (xs (3 * k + 1))) ko_X10_open km_L_51 ki_X10_open ks_X10_open kn_X10 (by decide +kernel) rfl hm.1 rfl hl.1 rfl (by simp [Value.category]) dL_law_113 (by rw [hR]; exact ⟨rfl, rfl, Nat.le_of_ble_eq_true rfl, Nat.le_of_ble_eq_true rfl, by show _ ≤ 601024; omega, by show _ ≤ 7293034; omega⟩) (fun r_48 ah_49 H_50 L_51 st_52 hp hw hst => ?_)
    rcases hp with ⟨m1, rfl, eah_49⟩ | ⟨m1, m2, rfl, eah_49⟩ | ⟨m1, m2, m3, rfl, eah_49⟩ | ⟨m1, m2, m3, rfl, q2, g2, hm2, hN2, hq0, k0, k1, k2, k3, k4, k5, k6, k11, kr, hFr2⟩
    · skip
      exfalso
      exact (x17.mp m1).elim (fun h9 => hP.1.1 h9) (fun h9 => h9 hP.1.2)
    · skip
      exfalso
      exact hP.2.1 ((take_e hI).trans m2)
    · skip
      have hm2 := moA_q hm eah_49
      have hst : st_52 = [.int 0] := hst
      subst hst
      refine lv_istore (lv' := [(6, .int 0), (5, .int 3), (4, .int (nI (3 * k))), (3, .ref out), (2, .ref mo), (1, .ref sj), (0, .ref b)]) hx hb dL_law_116 hl (by decide) rfl (fun ls hl => ?_)
      refine lv_aload_n hx hb dL_law_118 rfl (lv_at hl 4 rfl) ?_
      refine h_callV (n := 0) (ci := 10) (b := mo) (As := []) (rest := []) ⟨hx, hb, hml, hown, hts⟩ hK hw (c_X10_thrown l D dT ah_49 H_50.size mo AR (upd q 0 3) g hm2) ko_X10_thrown km_L_52 ki_X10_thrown ks_X10_thrown kn_X10 (by decide +kernel) rfl hm2.1 rfl hl.1 rfl (by simp [Value.category]) dL_law_119 (by rw [hR]; exact ⟨rfl, rfl, Nat.le_of_ble_eq_true rfl, Nat.le_of_ble_eq_true rfl, by show _ ≤ 601024; omega, by show _ ≤ 7293034; omega⟩) (fun r_53 ah_54 H_55 L_56 st_57 hp hw hst => ?_)
      obtain ⟨rfl, rfl⟩ := hp
      rw [show (upd q 0 3) 0 = 3 from upd_e] at hst
      have hst : st_57 = [.int 3] := hst
      subst hst
      refine lv_iload hx hb dL_law_122 (lv_at hl 1 rfl) ?_
      refine lv_icmp_eq (tgt := 129) hx hb dL_law_124 (by decide) (fun c_58 => ?_) (fun c_58 => ?_)
      · skip
        refine lv_iload hx hb dL_law_129 (lv_at hl 1 rfl) ?_
        refine lv_if_ne (tgt := 146) hx hb dL_law_131 (by decide) (fun c_59 => ?_) (fun c_59 => ?_)
        · skip
          refine lv_goto (tgt := 385) hx hb dL_law_146 (by decide) ?_
          exact kk ls ah_49 _ _ _ _ _ _ (lw_same hj hm hI ho hS hcnt (q2 := upd q 0 3) (fun i h1 h2 => upd_n (by omega)) eah_49) hw ((by cases jd <;> simp at hcb hsb ⊢ <;> omega)) ((by cases jd <;> simp at hcb hsb ⊢ <;> omega)) (lv_sub hl [2, 3, 4, 5, 6] rfl)
        · exact absurd c_59 (by decide)
      · exact absurd c_58 (by decide)
    · skip
      exfalso
      have := hP.2.2; omega

set_option maxHeartbeats 4000000 in
set_option maxRecDepth 100000 in
theorem st_ring {p : Program} {l : Launch} {e : Env} {R : Room} {s : State} {m : MethodId} {args : Array Value} {below : List Frame} {meth : Method} {c : Code} {Q : State → Prop} {D : va_G} {dT : Nat → ClassId} {b L : Nat} {xs : Nat → Int32} (hlt : l.stackTraces = false) (hR : R = room_1) (ah : hA) (hC9 : lwC p s m meth c D dT args b L xs ah) (hL : L ≤ 1536) {k sj mo out cr sr : Nat} (hkL : 3 * k + 3 ≤ L) {ah9 : hA} {H9 : Heap} {L9 : List Loc} {ls : Array Slot} {cl9 sl9 : Nat} (hI : lwI dT ah9 sj mo out k cr sr) (hw : hW D ah s.heap ah9 H9 L9) (hcb : cl9 + cr ≤ 100 + 13 * k) (hsb : sl9 + sr ≤ 40000 + 5143 * k) (hl : lv_has ls 7 [(4, .int (nI (3 * k))), (3, .ref out), (2, .ref mo), (1, .ref sj), (0, .ref b)])
    (kk : ∀ (ls : Array Slot) (ah2 : hA) (H2 : Heap) (L2 : List Loc) (cl2 sl2 cr2 sr2 : Nat), lwI dT ah2 sj mo out (k + 1) cr2 sr2 → hW D ah s.heap ah2 H2 L2 → cl2 + cr2 ≤ 100 + 13 * (k + 1) → sl2 + sr2 ≤ 40000 + 5143 * (k + 1) → lv_has ls 7 [(4, .int (nI (3 * k))), (3, .ref out), (2, .ref mo), (1, .ref sj), (0, .ref b)] → W p l e R s m args below meth c H2 L2 cl2 sl2 Q (F0 m 385 ls [])) : W p l e R s m args below meth c H9 L9 cl9 sl9 Q (F0 m 149 ls []) := by
  obtain ⟨hx, hb, hml, hown, hts, hK, hX9, hY9, hXX, hbl, hbA⟩ := hC9
  obtain ⟨sh, fd, ins, pa, mt, RO, RA, cap, AR, ns, nc, np, nr, no, f, g, q, wh, pl, jd, FC, FP, FG, RC, PF, PC, RP, RN, OP, PA, fL, hj, hm, hI, ho, hS, hcnt, rfl, rfl⟩ := hI
  have hbb := jI_b hI
  have hN := hI.2.1
  have hMS := hI.1.2.1
  have hq := hOQ hI
  have hrw := rw_b hj
  refine lv_aload_n hx hb dL_law_149 rfl (lv_at hl 3 rfl) ?_
  refine h_callSH (n := 1) (As := [.ref sj]) (rest := []) ⟨hx, hb, hml, hown, hts⟩ hK hX9 hY9 hw (c_L_ring l D dT ah9 H9.size sj _ hj.1   6 123 1 (6 + rwG nc (cap 3)) _ _ (c_X9_ring l D dT ah9 H9.size hlt sj sh fd ins pa mt RO RA cap ns nc np no nr f wh pl jd hj (by omega) (by omega) (by omega) (by omega) (by omega)) (fun r9 ah9 h9 => h9.2.1) (fun E h9 => by rcases h9 with h9 | h9; exact Or.inl h9.1; exact Or.inr (h9.1))) ko_L_ring km_L_55 kt_L_ring kn_L (by decide +kernel) rfl hl.1 rfl (by simp [Value.category]) dL_law_150 (by rw [hR]; exact ⟨rfl, rfl, Nat.le_of_ble_eq_true rfl, Nat.le_of_ble_eq_true rfl, by show _ ≤ 601024; omega, by show _ ≤ 7293034; omega⟩) (fun r_1 ah_2 H_3 L_4 st_5 hp hw hst => ?_)
  rcases hp with ⟨hpX, rfl⟩ | ⟨hpx, rfl, rfl⟩ | ⟨hpx, rfl, rfl⟩
  · skip
    obtain ⟨⟨hr1, hr2⟩, -, RA2, cap2, f2, hj1, hkK, hRA2, hD2, f23⟩ := hpX
    have hm1 := m_keep hj hm hS hkK
    have ho1 := o_keep hj hkK ho
    have hst : st_5 = [.int 0] := hst
    subst hst
    refine lv_istore (lv' := [(5, .int 0), (4, .int (nI (3 * k))), (3, .ref out), (2, .ref mo), (1, .ref sj), (0, .ref b)]) hx hb dL_law_153 hl (by decide) rfl (fun ls hl => ?_)
    refine lv_aload_n hx hb dL_law_155 rfl (lv_at hl 3 rfl) ?_
    refine h_callV (n := 0) (ci := 10) (b := mo) (As := []) (rest := []) ⟨hx, hb, hml, hown, hts⟩ hK hw (c_X10_ring l D dT ah_2 H_3.size mo AR q g hm1 ns _ np nr no hN FG RC PF PC (f 0) (f 1) PA hMS OP hq) ko_X10_ring km_L_58 ki_X10_ring ks_X10_ring kn_X10 (by decide +kernel) rfl hm1.1 rfl hl.1 rfl (by simp [Value.category]) dL_law_156 (by rw [hR]; exact ⟨rfl, rfl, Nat.le_of_ble_eq_true rfl, Nat.le_of_ble_eq_true rfl, by show _ ≤ 601024; omega, by show _ ≤ 7293034; omega⟩) (fun r_6 ah_7 H_8 L_9 st_10 hp hw hst => ?_)
    rcases hp with ⟨m1, rfl, eah_7⟩ | ⟨m1, m2, rfl, eah_7⟩ | ⟨m1, m2, rfl, q2, g2, hm2, hN2, hq0, k7, k8, k6, kr, hFr2⟩
    · skip
      exfalso
      exact (kind_n hI m1) hr1
    · skip
      exfalso
      omega
    · skip
      obtain ⟨hn0, hk3⟩ := kind_3 hI hr1
      have hjd := jd_open hI hn0
      subst hjd
      simp only [Bool.false_eq_true, if_false] at hcb hsb
      have hI2 := jI_ring hI hn0 hk3 hN2 hD2 f23 k7 k8 k6 kr
      have hst : st_10 = [] := hst
      subst hst
      refine lv_aload_n hx hb dL_law_159 rfl (lv_at hl 3 rfl) ?_
      refine h_callV (n := 0) (ci := 10) (b := mo) (As := []) (rest := []) ⟨hx, hb, hml, hown, hts⟩ hK hw (c_X10_thrown l D dT ah_7 H_8.size mo AR q2 g2 hm2) ko_X10_thrown km_L_52 ki_X10_thrown ks_X10_thrown kn_X10 (by decide +kernel) rfl hm2.1 rfl hl.1 rfl (by simp [Value.category]) dL_law_160 (by rw [hR]; exact ⟨rfl, rfl, Nat.le_of_ble_eq_true rfl, Nat.le_of_ble_eq_true rfl, by show _ ≤ 601024; omega, by show _ ≤ 7293034; omega⟩) (fun r_11 ah_12 H_13 L_14 st_15 hp hw hst => ?_)
      obtain ⟨rfl, rfl⟩ := hp
      rw [show q2 0 = 0 from hq0] at hst
      have hst : st_15 = [.int 0] := hst
      subst hst
      refine lv_iload hx hb dL_law_163 (lv_at hl 0 rfl) ?_
      refine lv_icmp_eq (tgt := 170) hx hb dL_law_165 (by decide) (fun c_16 => ?_) (fun c_16 => ?_)
      · skip
        refine lv_goto (tgt := 385) hx hb dL_law_170 (by decide) ?_
        exact kk ls ah_7 _ _ _ _ _ _ (⟨sh, fd, ins, pa, mt, RO, RA2, cap2, AR, ns, nc + 1, np, nr + 1, no, f2, g2, q2, wh, pl, false, _, _, _, _, _, _, _, _, _, _, _, c_keep hj1 hm1 (sep_2 hm hS hRA2) hFr2, hm2, hI2, oc_keep hm1 hFr2 ho1, (sep_2 hm hS hRA2), by omega, rfl, rfl⟩) hw (by simp only [Bool.false_eq_true, if_false]; omega) (by simp only [Bool.false_eq_true, if_false]; omega) (lv_sub hl [1, 2, 3, 4, 5] rfl)
      · exact absurd c_16 (by decide)
  · skip
    have hP : ¬ shKind f ns no = 3 := (by rcases hpx with ⟨-, h9⟩ | ⟨h9, -⟩; exact h9; exact absurd h9 (by decide))
    have hst : st_5 = [.int 1] := hst
    subst hst
    refine lv_istore (lv' := [(5, .int 1), (4, .int (nI (3 * k))), (3, .ref out), (2, .ref mo), (1, .ref sj), (0, .ref b)]) hx hb dL_law_153 hl (by decide) rfl (fun ls hl => ?_)
    refine lv_aload_n hx hb dL_law_155 rfl (lv_at hl 3 rfl) ?_
    refine h_callV (n := 0) (ci := 10) (b := mo) (As := []) (rest := []) ⟨hx, hb, hml, hown, hts⟩ hK hw (c_X10_ring l D dT ah9 H_3.size mo AR q g hm ns _ np nr no hN FG RC PF PC (f 0) (f 1) PA hMS OP hq) ko_X10_ring km_L_58 ki_X10_ring ks_X10_ring kn_X10 (by decide +kernel) rfl hm.1 rfl hl.1 rfl (by simp [Value.category]) dL_law_156 (by rw [hR]; exact ⟨rfl, rfl, Nat.le_of_ble_eq_true rfl, Nat.le_of_ble_eq_true rfl, by show _ ≤ 601024; omega, by show _ ≤ 7293034; omega⟩) (fun r_17 ah_18 H_19 L_20 st_21 hp hw hst => ?_)
    rcases hp with ⟨m1, rfl, eah_18⟩ | ⟨m1, m2, rfl, eah_18⟩ | ⟨m1, m2, rfl, q2, g2, hm2, hN2, hq0, k7, k8, k6, kr, hFr2⟩
    · skip
      have hm2 := moA_q hm eah_18
      have hst : st_21 = [] := hst
      subst hst
      refine lv_aload_n hx hb dL_law_159 rfl (lv_at hl 3 rfl) ?_
      refine h_callV (n := 0) (ci := 10) (b := mo) (As := []) (rest := []) ⟨hx, hb, hml, hown, hts⟩ hK hw (c_X10_thrown l D dT ah_18 H_19.size mo AR (upd q 0 1) g hm2) ko_X10_thrown km_L_52 ki_X10_thrown ks_X10_thrown kn_X10 (by decide +kernel) rfl hm2.1 rfl hl.1 rfl (by simp [Value.category]) dL_law_160 (by rw [hR]; exact ⟨rfl, rfl, Nat.le_of_ble_eq_true rfl, Nat.le_of_ble_eq_true rfl, by show _ ≤ 601024; omega, by show _ ≤ 7293034; omega⟩) (fun r_22 ah_23 H_24 L_25 st_26 hp hw hst => ?_)
      obtain ⟨rfl, rfl⟩ := hp
      rw [show (upd q 0 1) 0 = 1 from upd_e] at hst
      have hst : st_26 = [.int 1] := hst
      subst hst
      refine lv_iload hx hb dL_law_163 (lv_at hl 0 rfl) ?_
      refine lv_icmp_eq (tgt := 170) hx hb dL_law_165 (by decide) (fun c_27 => ?_) (fun c_27 => ?_)
      · skip
        refine lv_goto (tgt := 385) hx hb dL_law_170 (by decide) ?_
        exact kk ls ah_18 _ _ _ _ _ _ (lw_same hj hm hI ho hS hcnt (q2 := upd q 0 1) (fun i h1 h2 => upd_n (by omega)) eah_18) hw ((by cases jd <;> simp at hcb hsb ⊢ <;> omega)) ((by cases jd <;> simp at hcb hsb ⊢ <;> omega)) (lv_sub hl [1, 2, 3, 4, 5] rfl)
      · exact absurd c_27 (by decide)
    · skip
      exfalso
      exact hP (kind_y hI m1)
    · skip
      exfalso
      exact hP (kind_y hI m1)
  · skip
    have hP : shKind f ns no = 3 ∧ ¬ 2 * ns + 1 * nr ≤ 4095 := (by rcases hpx with ⟨h9, -⟩ | ⟨-, h9⟩; exact absurd h9 (by decide); exact h9)
    have hst : st_5 = [.int 2] := hst
    subst hst
    refine lv_istore (lv' := [(5, .int 2), (4, .int (nI (3 * k))), (3, .ref out), (2, .ref mo), (1, .ref sj), (0, .ref b)]) hx hb dL_law_153 hl (by decide) rfl (fun ls hl => ?_)
    refine lv_aload_n hx hb dL_law_155 rfl (lv_at hl 3 rfl) ?_
    refine h_callV (n := 0) (ci := 10) (b := mo) (As := []) (rest := []) ⟨hx, hb, hml, hown, hts⟩ hK hw (c_X10_ring l D dT ah9 H_3.size mo AR q g hm ns _ np nr no hN FG RC PF PC (f 0) (f 1) PA hMS OP hq) ko_X10_ring km_L_58 ki_X10_ring ks_X10_ring kn_X10 (by decide +kernel) rfl hm.1 rfl hl.1 rfl (by simp [Value.category]) dL_law_156 (by rw [hR]; exact ⟨rfl, rfl, Nat.le_of_ble_eq_true rfl, Nat.le_of_ble_eq_true rfl, by show _ ≤ 601024; omega, by show _ ≤ 7293034; omega⟩) (fun r_28 ah_29 H_30 L_31 st_32 hp hw hst => ?_)
    rcases hp with ⟨m1, rfl, eah_29⟩ | ⟨m1, m2, rfl, eah_29⟩ | ⟨m1, m2, rfl, q2, g2, hm2, hN2, hq0, k7, k8, k6, kr, hFr2⟩
    · skip
      exfalso
      exact (kind_n hI m1) hP.1
    · skip
      have hm2 := moA_q hm eah_29
      have hst : st_32 = [] := hst
      subst hst
      refine lv_aload_n hx hb dL_law_159 rfl (lv_at hl 3 rfl) ?_
      refine h_callV (n := 0) (ci := 10) (b := mo) (As := []) (rest := []) ⟨hx, hb, hml, hown, hts⟩ hK hw (c_X10_thrown l D dT ah_29 H_30.size mo AR (upd q 0 2) g hm2) ko_X10_thrown km_L_52 ki_X10_thrown ks_X10_thrown kn_X10 (by decide +kernel) rfl hm2.1 rfl hl.1 rfl (by simp [Value.category]) dL_law_160 (by rw [hR]; exact ⟨rfl, rfl, Nat.le_of_ble_eq_true rfl, Nat.le_of_ble_eq_true rfl, by show _ ≤ 601024; omega, by show _ ≤ 7293034; omega⟩) (fun r_33 ah_34 H_35 L_36 st_37 hp hw hst => ?_)
      obtain ⟨rfl, rfl⟩ := hp
      rw [show (upd q 0 2) 0 = 2 from upd_e] at hst
      have hst : st_37 = [.int 2] := hst
      subst hst
      refine lv_iload hx hb dL_law_163 (lv_at hl 0 rfl) ?_
      refine lv_icmp_eq (tgt := 170) hx hb dL_law_165 (by decide) (fun c_38 => ?_) (fun c_38 => ?_)
      · skip
        refine lv_goto (tgt := 385) hx hb dL_law_170 (by decide) ?_
        exact kk ls ah_29 _ _ _ _ _ _ (lw_same hj hm hI ho hS hcnt (q2 := upd q 0 2) (fun i h1 h2 => upd_n (by omega)) eah_29) hw ((by cases jd <;> simp at hcb hsb ⊢ <;> omega)) ((by cases jd <;> simp at hcb hsb ⊢ <;> omega)) (lv_sub hl [1, 2, 3, 4, 5] rfl)
      · exact absurd c_38 (by decide)
    · skip
      exfalso
      have := hP.2; omega

set_option maxHeartbeats 4000000 in
set_option maxRecDepth 100000 in
theorem st_point {p : Program} {l : Launch} {e : Env} {R : Room} {s : State} {m : MethodId} {args : Array Value} {below : List Frame} {meth : Method} {c : Code} {Q : State → Prop} {D : va_G} {dT : Nat → ClassId} {b L : Nat} {xs : Nat → Int32} (hlt : l.stackTraces = false) (hR : R = room_1) (ah : hA) (hC9 : lwC p s m meth c D dT args b L xs ah) (hL : L ≤ 1536) {k sj mo out cr sr : Nat} (hkL : 3 * k + 3 ≤ L) {ah9 : hA} {H9 : Heap} {L9 : List Loc} {ls : Array Slot} {cl9 sl9 : Nat} (hI : lwI dT ah9 sj mo out k cr sr) (hw : hW D ah s.heap ah9 H9 L9) (hcb : cl9 + cr ≤ 100 + 13 * k) (hsb : sl9 + sr ≤ 40000 + 5143 * k) (hl : lv_has ls 7 [(4, .int (nI (3 * k))), (3, .ref out), (2, .ref mo), (1, .ref sj), (0, .ref b)])
    (kk : ∀ (ls : Array Slot) (ah2 : hA) (H2 : Heap) (L2 : List Loc) (cl2 sl2 cr2 sr2 : Nat), lwI dT ah2 sj mo out (k + 1) cr2 sr2 → hW D ah s.heap ah2 H2 L2 → cl2 + cr2 ≤ 100 + 13 * (k + 1) → sl2 + sr2 ≤ 40000 + 5143 * (k + 1) → lv_has ls 7 [(4, .int (nI (3 * k))), (3, .ref out), (2, .ref mo), (1, .ref sj), (0, .ref b)] → W p l e R s m args below meth c H2 L2 cl2 sl2 Q (F0 m 385 ls [])) : W p l e R s m args below meth c H9 L9 cl9 sl9 Q (F0 m 173 ls []) := by
  obtain ⟨hx, hb, hml, hown, hts, hK, hX9, hY9, hXX, hbl, hbA⟩ := hC9
  obtain ⟨sh, fd, ins, pa, mt, RO, RA, cap, AR, ns, nc, np, nr, no, f, g, q, wh, pl, jd, FC, FP, FG, RC, PF, PC, RP, RN, OP, PA, fL, hj, hm, hI, ho, hS, hcnt, rfl, rfl⟩ := hI
  have hbb := jI_b hI
  have hN := hI.2.1
  have hMS := hI.1.2.1
  have hq := hOQ hI
  have hrw := rw_b hj
  refine lv_aload_n hx hb dL_law_173 rfl (lv_at hl 3 rfl) ?_
  refine lv_aload_n hx hb dL_law_174 rfl (lv_at hl 4 rfl) ?_
  refine lv_iload hx hb dL_law_175 (lv_at hl 0 rfl) ?_
  refine lv_iconst (v := 1) hx hb dL_law_177 (by decide) ?_
  refine lv_iadd hx hb dL_law_178 ?_
  refine lv_topi (fun t_1 et_1 => ?_)
  obtain rfl : t_1 = nI (3 * k + 1) := et_1.trans (nI_c _ 1)
  refine h_sld hx hb hXX hbl hbA hw (j := (3 * k + 1)) (by omega) (by omega) dL_law_179 ?_
  refine lv_aload_n hx hb dL_law_180 rfl (lv_at hl 4 rfl) ?_
  refine lv_iload hx hb dL_law_181 (lv_at hl 0 rfl) ?_
  refine lv_iconst (v := 2) hx hb dL_law_183 (by decide) ?_
  refine lv_iadd hx hb dL_law_184 ?_
  refine lv_topi (fun t_2 et_2 => ?_)
  obtain rfl : t_2 = nI (3 * k + 2) := et_2.trans (nI_c _ 2)
  refine h_sld hx hb hXX hbl hbA hw (j := (3 * k + 2)) (by omega) (by omega) dL_law_185 ?_
  refine lv_aload_n hx hb dL_law_186 rfl (lv_at hl 1 rfl) ?_
  refine h_callSH (n := 4) (As := [.ref sj, .int (xs (3 * k + 1)), .int (xs (3 * k + 2)), .ref out]) (rest := []) ⟨hx, hb, hml, hown, hts⟩ hK hX9 hY9 hw (c_L_point l D dT ah9 H9.size sj out _ hj.1 fL (xs (3 * k + 1)) (xs (3 * k + 2)) 6 125 2 (6 + rwG np (cap 4) + rwG np (cap 5)) _ _ (c_X9_point l D dT ah9 H9.size hlt sj sh fd ins pa mt RO RA cap ns nc np no nr f wh pl jd hj (by omega) (by omega) (by omega) (by omega) (by omega) (xs (3 * k + 1)) (xs (3 * k + 2))) (fun r9 ah9 h9 => ⟨_, h9.2.1, by obtain ⟨-, -, RA2, cap2, f2, -, hk9, -⟩ := h9; exact o_keep hj hk9 ho⟩) (fun E h9 => by rcases h9 with h9 | h9 | h9; exact Or.inl h9.1; exact Or.inr (Or.inl h9.1); exact Or.inr (Or.inr (h9.1)))) ko_L_point km_L_59 kt_L_point kn_L (by decide +kernel) rfl hl.1 rfl (by simp [Value.category]) dL_law_187 (by rw [hR]; exact ⟨rfl, rfl, Nat.le_of_ble_eq_true rfl, Nat.le_of_ble_eq_true rfl, by show _ ≤ 601024; omega, by show _ ≤ 7293034; omega⟩) (fun r_3 ah_4 H_5 L_6 st_7 hp hw hst => ?_)
  rcases hp with ⟨v, ahX, hpX, rfl, e1⟩ | ⟨hpx, rfl, rfl⟩ | ⟨hpx, rfl, rfl⟩ | ⟨hpx, rfl, rfl⟩
  · skip
    obtain ⟨⟨hr1, hr2, hr3⟩, hv, RA2, cap2, f2, hj2, hkK, hRA2, hD2, f24, f25⟩ := hpX
    cases hv
    have hoX := o_keep hj hkK ho
    have hmX := m_keep hj hm hS hkK
    have hm1 : moA dT ah_4 mo AR q g := by rw [e1]; exact out_up hmX hoX
    have hj1 : cjA dT ah_4 sj sh fd ins pa mt RO RA2 cap2 ns nc (np + 1) no nr f2 wh pl jd := by rw [e1]; exact out_cj hj2 hoX
    have ho1 : ah_4 out = some (.inl (dT 1, 1, .inr (.inl (vp_updL fL 0 (nI (np + 1)).toInt64)))) := by rw [e1]; exact hup_s
    have hst : st_7 = [.int 0] := hst
    subst hst
    refine lv_istore (lv' := [(5, .int 0), (4, .int (nI (3 * k))), (3, .ref out), (2, .ref mo), (1, .ref sj), (0, .ref b)]) hx hb dL_law_190 hl (by decide) rfl (fun ls hl => ?_)
    refine lv_aload_n hx hb dL_law_192 rfl (lv_at hl 3 rfl) ?_
    refine lv_aload_n hx hb dL_law_193 rfl (lv_at hl 5 rfl) ?_
    refine lv_iload hx hb dL_law_194 (lv_at hl 1 rfl) ?_
    refine lv_iconst (v := 1) hx hb dL_law_196 (by decide) ?_
    refine lv_iadd hx hb dL_law_197 ?_
    refine lv_topi (fun t_8 et_8 => ?_)
    obtain rfl : t_8 = nI (3 * k + 1) := et_8.trans (nI_c _ 1)
    refine h_sld hx hb hXX hbl hbA hw (j := (3 * k + 1)) (by omega) (by omega) dL_law_198 ?_
    refine lv_aload_n hx hb dL_law_199 rfl (lv_at hl 5 rfl) ?_
    refine lv_iload hx hb dL_law_200 (lv_at hl 1 rfl) ?_
    refine lv_iconst (v := 2) hx hb dL_law_202 (by decide) ?_
    refine lv_iadd hx hb dL_law_203 ?_
    refine lv_topi (fun t_9 et_9 => ?_)
    obtain rfl : t_9 = nI (3 * k + 2) := et_9.trans (nI_c _ 2)
    refine h_sld hx hb hXX hbl hbA hw (j := (3 * k + 2)) (by omega) (by omega) dL_law_204 ?_
    refine h_callV (n := 2) (ci := 10) (b := mo) (As := [.int (xs (3 * k + 1)), .int (xs (3 * k + 2))]) (rest := []) ⟨hx, hb, hml, hown, hts⟩ hK hw (c_X10_point l D dT ah_4 H_5.size mo AR q g hm1 ns _ np nr no hN FG RC PF PC (f 0) (f 1) PA hMS OP hq (xs (3 * k + 1)) (xs (3 * k + 2))) ko_X10_point km_L_62 ki_X10_point ks_X10_point kn_X10 (by decide +kernel) rfl hm1.1 rfl hl.1 rfl (by simp [Value.category]) dL_law_205 (by rw [hR]; exact ⟨rfl, rfl, Nat.le_of_ble_eq_true rfl, Nat.le_of_ble_eq_true rfl, by show _ ≤ 601024; omega, by show _ ≤ 7293034; omega⟩) (fun r_10 ah_11 H_12 L_13 st_14 hp hw hst => ?_)
    rcases hp with ⟨m1, rfl, eah_11⟩ | ⟨m1, m2, rfl, eah_11⟩ | ⟨m1, m2, m3, rfl, eah_11⟩ | ⟨m1, m2, m3, rfl, q2, g2, hm2, hN2, hq0, k9, k10, k8, kr, hFr2⟩
    · skip
      exfalso
      exact m1.elim hr1.1 hr1.2
    · skip
      exfalso
      exact hr2 (tp_n hI m2)
    · skip
      exfalso
      omega
    · skip
      have hjd := jd_open hI m2.1
      subst hjd
      simp only [Bool.false_eq_true, if_false] at hcb hsb
      have ho2 := oc_keep hm1 hFr2 ho1
      obtain ⟨PC2, RN2, hI2⟩ := jI_point hI m2.1 m2.2 (co_bd hr1.1) (co_bd hr1.2) hN2 hD2 f24 f25 k9 k10 k8 kr
      have hst : st_14 = [.int (nI (np + 1))] := hst
      subst hst
      refine lv_istore (lv' := [(6, .int (nI (np + 1))), (5, .int 0), (4, .int (nI (3 * k))), (3, .ref out), (2, .ref mo), (1, .ref sj), (0, .ref b)]) hx hb dL_law_208 hl (by decide) rfl (fun ls hl => ?_)
      refine lv_aload_n hx hb dL_law_210 rfl (lv_at hl 4 rfl) ?_
      refine h_callV (n := 0) (ci := 10) (b := mo) (As := []) (rest := []) ⟨hx, hb, hml, hown, hts⟩ hK hw (c_X10_thrown l D dT ah_11 H_12.size mo AR q2 g2 hm2) ko_X10_thrown km_L_52 ki_X10_thrown ks_X10_thrown kn_X10 (by decide +kernel) rfl hm2.1 rfl hl.1 rfl (by simp [Value.category]) dL_law_211 (by rw [hR]; exact ⟨rfl, rfl, Nat.le_of_ble_eq_true rfl, Nat.le_of_ble_eq_true rfl, by show _ ≤ 601024; omega, by show _ ≤ 7293034; omega⟩) (fun r_15 ah_16 H_17 L_18 st_19 hp hw hst => ?_)
      obtain ⟨rfl, rfl⟩ := hp
      rw [show q2 0 = 0 from hq0] at hst
      have hst : st_19 = [.int 0] := hst
      subst hst
      refine lv_iload hx hb dL_law_214 (lv_at hl 1 rfl) ?_
      refine lv_icmp_eq (tgt := 221) hx hb dL_law_216 (by decide) (fun c_20 => ?_) (fun c_20 => ?_)
      · skip
        refine lv_iload hx hb dL_law_221 (lv_at hl 1 rfl) ?_
        refine lv_if_ne (tgt := 238) hx hb dL_law_223 (by decide) (fun c_21 => ?_) (fun c_21 => ?_)
        · exact absurd c_21 (by decide)
        · skip
          refine lv_aload_n hx hb dL_law_226 rfl (lv_at hl 3 rfl) ?_
          refine lv_iconst (v := 0) hx hb dL_law_227 (by decide) ?_
          refine h_lald hx hb hK hw ho2 0 (by decide) (by omega) (by omega) dL_law_228 ?_
          rw [show (vp_updL fL 0 (nI (np + 1)).toInt64) 0 = (nI (np + 1)).toInt64 from rfl]
          refine lv_iload hx hb dL_law_229 (lv_at hl 0 rfl) ?_
          refine lv_i2l (v := (nI (np + 1)).toInt64) hx hb dL_law_231 rfl ?_
          refine W.lcmp hx hb dL_law_232 ?_
          refine lv_if_eq (tgt := 238) hx hb dL_law_233 (by decide) (fun c_22 => ?_) (fun c_22 => ?_)
          · skip
            have c_22 : (nI (np + 1)).toInt64 = (nI (np + 1)).toInt64 := lgc_eq.mp c_22
            refine lv_goto (tgt := 385) hx hb dL_law_238 (by decide) ?_
            exact kk ls ah_11 _ _ _ _ _ _ (⟨sh, fd, ins, pa, mt, RO, RA2, cap2, AR, ns, nc, np + 1, nr, no, f2, g2, q2, wh, pl, false, _, _, _, _, _, _, _, _, _, _, _, c_keep hj1 hm1 (sep_2 hm hS hRA2) hFr2, hm2, hI2, oc_keep hm1 hFr2 ho1, (sep_2 hm hS hRA2), by omega, rfl, rfl⟩) hw (by simp only [Bool.false_eq_true, if_false]; omega) (by simp only [Bool.false_eq_true, if_false]; omega) (lv_sub hl [2, 3, 4, 5, 6] rfl)
          · skip
            have c_22 : ¬ ((nI (np + 1)).toInt64 = (nI (np + 1)).toInt64) := (not_congr lgc_eq).mp c_22
            exfalso
            exact absurd rfl c_22
      · exact absurd c_20 (by decide)
  · skip
    have hP : (isCo (xs (3 * k + 1)) = false ∨ isCo (xs (3 * k + 2)) = false) := (by rcases hpx with ⟨-, h9⟩ | ⟨h9, -⟩ | ⟨h9, -⟩; exact h9; exact absurd h9 (by decide); exact absurd h9 (by decide))
    have hst : st_7 = [.int 1] := hst
    subst hst
    refine lv_istore (lv' := [(5, .int 1), (4, .int (nI (3 * k))), (3, .ref out), (2, .ref mo), (1, .ref sj), (0, .ref b)]) hx hb dL_law_190 hl (by decide) rfl (fun ls hl => ?_)
    refine lv_aload_n hx hb dL_law_192 rfl (lv_at hl 3 rfl) ?_
    refine lv_aload_n hx hb dL_law_193 rfl (lv_at hl 5 rfl) ?_
    refine lv_iload hx hb dL_law_194 (lv_at hl 1 rfl) ?_
    refine lv_iconst (v := 1) hx hb dL_law_196 (by decide) ?_
    refine lv_iadd hx hb dL_law_197 ?_
    refine lv_topi (fun t_23 et_23 => ?_)
    obtain rfl : t_23 = nI (3 * k + 1) := et_23.trans (nI_c _ 1)
    refine h_sld hx hb hXX hbl hbA hw (j := (3 * k + 1)) (by omega) (by omega) dL_law_198 ?_
    refine lv_aload_n hx hb dL_law_199 rfl (lv_at hl 5 rfl) ?_
    refine lv_iload hx hb dL_law_200 (lv_at hl 1 rfl) ?_
    refine lv_iconst (v := 2) hx hb dL_law_202 (by decide) ?_
    refine lv_iadd hx hb dL_law_203 ?_
    refine lv_topi (fun t_24 et_24 => ?_)
    obtain rfl : t_24 = nI (3 * k + 2) := et_24.trans (nI_c _ 2)
    refine h_sld hx hb hXX hbl hbA hw (j := (3 * k + 2)) (by omega) (by omega) dL_law_204 ?_
    refine h_callV (n := 2) (ci := 10) (b := mo) (As := [.int (xs (3 * k + 1)), .int (xs (3 * k + 2))]) (rest := []) ⟨hx, hb, hml, hown, hts⟩ hK hw (c_X10_point l D dT ah9 H_5.size mo AR q g hm ns _ np nr no hN FG RC PF PC (f 0) (f 1) PA hMS OP hq (xs (3 * k + 1)) (xs (3 * k + 2))) ko_X10_point km_L_62 ki_X10_point ks_X10_point kn_X10 (by decide +kernel) rfl hm.1 rfl hl.1 rfl (by simp [Value.category]) dL_law_205 (by rw [hR]; exact ⟨rfl, rfl, Nat.le_of_ble_eq_true rfl, Nat.le_of_ble_eq_true rfl, by show _ ≤ 601024; omega, by show _ ≤ 7293034; omega⟩) (fun r_25 ah_26 H_27 L_28 st_29 hp hw hst => ?_)
    rcases hp with ⟨m1, rfl, eah_26⟩ | ⟨m1, m2, rfl, eah_26⟩ | ⟨m1, m2, m3, rfl, eah_26⟩ | ⟨m1, m2, m3, rfl, q2, g2, hm2, hN2, hq0, k9, k10, k8, kr, hFr2⟩
    · skip
      have hm2 := moA_q hm eah_26
      have hst : st_29 = [.int 0] := hst
      subst hst
      refine lv_istore (lv' := [(6, .int 0), (5, .int 1), (4, .int (nI (3 * k))), (3, .ref out), (2, .ref mo), (1, .ref sj), (0, .ref b)]) hx hb dL_law_208 hl (by decide) rfl (fun ls hl => ?_)
      refine lv_aload_n hx hb dL_law_210 rfl (lv_at hl 4 rfl) ?_
      refine h_callV (n := 0) (ci := 10) (b := mo) (As := []) (rest := []) ⟨hx, hb, hml, hown, hts⟩ hK hw (c_X10_thrown l D dT ah_26 H_27.size mo AR (upd q 0 1) g hm2) ko_X10_thrown km_L_52 ki_X10_thrown ks_X10_thrown kn_X10 (by decide +kernel) rfl hm2.1 rfl hl.1 rfl (by simp [Value.category]) dL_law_211 (by rw [hR]; exact ⟨rfl, rfl, Nat.le_of_ble_eq_true rfl, Nat.le_of_ble_eq_true rfl, by show _ ≤ 601024; omega, by show _ ≤ 7293034; omega⟩) (fun r_30 ah_31 H_32 L_33 st_34 hp hw hst => ?_)
      obtain ⟨rfl, rfl⟩ := hp
      rw [show (upd q 0 1) 0 = 1 from upd_e] at hst
      have hst : st_34 = [.int 1] := hst
      subst hst
      refine lv_iload hx hb dL_law_214 (lv_at hl 1 rfl) ?_
      refine lv_icmp_eq (tgt := 221) hx hb dL_law_216 (by decide) (fun c_35 => ?_) (fun c_35 => ?_)
      · skip
        refine lv_iload hx hb dL_law_221 (lv_at hl 1 rfl) ?_
        refine lv_if_ne (tgt := 238) hx hb dL_law_223 (by decide) (fun c_36 => ?_) (fun c_36 => ?_)
        · skip
          refine lv_goto (tgt := 385) hx hb dL_law_238 (by decide) ?_
          exact kk ls ah_26 _ _ _ _ _ _ (lw_same hj hm hI ho hS hcnt (q2 := upd q 0 1) (fun i h1 h2 => upd_n (by omega)) eah_26) hw ((by cases jd <;> simp at hcb hsb ⊢ <;> omega)) ((by cases jd <;> simp at hcb hsb ⊢ <;> omega)) (lv_sub hl [2, 3, 4, 5, 6] rfl)
        · exact absurd c_36 (by decide)
      · exact absurd c_35 (by decide)
    · skip
      exfalso
      exact hP.elim m1.1 m1.2
    · skip
      exfalso
      exact hP.elim m1.1 m1.2
    · skip
      exfalso
      exact hP.elim m1.1 m1.2
  · skip
    have hP : (¬ isCo (xs (3 * k + 1)) = false ∧ ¬ isCo (xs (3 * k + 2)) = false) ∧ shTakeP f ns nc np no = false := (by rcases hpx with ⟨h9, -⟩ | ⟨-, h9⟩ | ⟨h9, -⟩; exact absurd h9 (by decide); exact h9; exact absurd h9 (by decide))
    have hst : st_7 = [.int 2] := hst
    subst hst
    refine lv_istore (lv' := [(5, .int 2), (4, .int (nI (3 * k))), (3, .ref out), (2, .ref mo), (1, .ref sj), (0, .ref b)]) hx hb dL_law_190 hl (by decide) rfl (fun ls hl => ?_)
    refine lv_aload_n hx hb dL_law_192 rfl (lv_at hl 3 rfl) ?_
    refine lv_aload_n hx hb dL_law_193 rfl (lv_at hl 5 rfl) ?_
    refine lv_iload hx hb dL_law_194 (lv_at hl 1 rfl) ?_
    refine lv_iconst (v := 1) hx hb dL_law_196 (by decide) ?_
    refine lv_iadd hx hb dL_law_197 ?_
    refine lv_topi (fun t_37 et_37 => ?_)
    obtain rfl : t_37 = nI (3 * k + 1) := et_37.trans (nI_c _ 1)
    refine h_sld hx hb hXX hbl hbA hw (j := (3 * k + 1)) (by omega) (by omega) dL_law_198 ?_
    refine lv_aload_n hx hb dL_law_199 rfl (lv_at hl 5 rfl) ?_
    refine lv_iload hx hb dL_law_200 (lv_at hl 1 rfl) ?_
    refine lv_iconst (v := 2) hx hb dL_law_202 (by decide) ?_
    refine lv_iadd hx hb dL_law_203 ?_
    refine lv_topi (fun t_38 et_38 => ?_)
    obtain rfl : t_38 = nI (3 * k + 2) := et_38.trans (nI_c _ 2)
    refine h_sld hx hb hXX hbl hbA hw (j := (3 * k + 2)) (by omega) (by omega) dL_law_204 ?_
    refine h_callV (n := 2) (ci := 10) (b := mo) (As := [.int (xs (3 * k + 1)), .int (xs (3 * k + 2))]) (rest := []) ⟨hx, hb, hml, hown, hts⟩ hK hw (c_X10_point l D dT ah9 H_5.size mo AR q g hm ns _ np nr no hN FG RC PF PC (f 0) (f 1) PA hMS OP hq (xs (3 * k + 1)) (xs (3 * k + 2))) ko_X10_point km_L_62 ki_X10_point ks_X10_point kn_X10 (by decide +kernel) rfl hm.1 rfl hl.1 rfl (by simp [Value.category]) dL_law_205 (by rw [hR]; exact ⟨rfl, rfl, Nat.le_of_ble_eq_true rfl, Nat.le_of_ble_eq_true rfl, by show _ ≤ 601024; omega, by show _ ≤ 7293034; omega⟩) (fun r_39 ah_40 H_41 L_42 st_43 hp hw hst => ?_)
    rcases hp with ⟨m1, rfl, eah_40⟩ | ⟨m1, m2, rfl, eah_40⟩ | ⟨m1, m2, m3, rfl, eah_40⟩ | ⟨m1, m2, m3, rfl, q2, g2, hm2, hN2, hq0, k9, k10, k8, kr, hFr2⟩
    · skip
      exfalso
      exact m1.elim hP.1.1 hP.1.2
    · skip
      have hm2 := moA_q hm eah_40
      have hst : st_43 = [.int 0] := hst
      subst hst
      refine lv_istore (lv' := [(6, .int 0), (5, .int 2), (4, .int (nI (3 * k))), (3, .ref out), (2, .ref mo), (1, .ref sj), (0, .ref b)]) hx hb dL_law_208 hl (by decide) rfl (fun ls hl => ?_)
      refine lv_aload_n hx hb dL_law_210 rfl (lv_at hl 4 rfl) ?_
      refine h_callV (n := 0) (ci := 10) (b := mo) (As := []) (rest := []) ⟨hx, hb, hml, hown, hts⟩ hK hw (c_X10_thrown l D dT ah_40 H_41.size mo AR (upd q 0 2) g hm2) ko_X10_thrown km_L_52 ki_X10_thrown ks_X10_thrown kn_X10 (by decide +kernel) rfl hm2.1 rfl hl.1 rfl (by simp [Value.category]) dL_law_211 (by rw [hR]; exact ⟨rfl, rfl, Nat.le_of_ble_eq_true rfl, Nat.le_of_ble_eq_true rfl, by show _ ≤ 601024; omega, by show _ ≤ 7293034; omega⟩) (fun r_44 ah_45 H_46 L_47 st_48 hp hw hst => ?_)
      obtain ⟨rfl, rfl⟩ := hp
      rw [show (upd q 0 2) 0 = 2 from upd_e] at hst
      have hst : st_48 = [.int 2] := hst
      subst hst
      refine lv_iload hx hb dL_law_214 (lv_at hl 1 rfl) ?_
      refine lv_icmp_eq (tgt := 221) hx hb dL_law_216 (by decide) (fun c_49 => ?_) (fun c_49 => ?_)
      · skip
        refine lv_iload hx hb dL_law_221 (lv_at hl 1 rfl) ?_
        refine lv_if_ne (tgt := 238) hx hb dL_law_223 (by decide) (fun c_50 => ?_) (fun c_50 => ?_)
        · skip
          refine lv_goto (tgt := 385) hx hb dL_law_238 (by decide) ?_
          exact kk ls ah_40 _ _ _ _ _ _ (lw_same hj hm hI ho hS hcnt (q2 := upd q 0 2) (fun i h1 h2 => upd_n (by omega)) eah_40) hw ((by cases jd <;> simp at hcb hsb ⊢ <;> omega)) ((by cases jd <;> simp at hcb hsb ⊢ <;> omega)) (lv_sub hl [2, 3, 4, 5, 6] rfl)
        · exact absurd c_50 (by decide)
      · exact absurd c_49 (by decide)
    · skip
      exfalso
      exact tp_y hI m2 hP.2
    · skip
      exfalso
      exact tp_y hI m2 hP.2
  · skip
    have hP : (¬ isCo (xs (3 * k + 1)) = false ∧ ¬ isCo (xs (3 * k + 2)) = false) ∧ ¬ shTakeP f ns nc np no = false ∧ ¬ np < 4096 := (by rcases hpx with ⟨h9, -⟩ | ⟨h9, -⟩ | ⟨-, h9⟩; exact absurd h9 (by decide); exact absurd h9 (by decide); exact h9)
    have hst : st_7 = [.int 3] := hst
    subst hst
    refine lv_istore (lv' := [(5, .int 3), (4, .int (nI (3 * k))), (3, .ref out), (2, .ref mo), (1, .ref sj), (0, .ref b)]) hx hb dL_law_190 hl (by decide) rfl (fun ls hl => ?_)
    refine lv_aload_n hx hb dL_law_192 rfl (lv_at hl 3 rfl) ?_
    refine lv_aload_n hx hb dL_law_193 rfl (lv_at hl 5 rfl) ?_
    refine lv_iload hx hb dL_law_194 (lv_at hl 1 rfl) ?_
    refine lv_iconst (v := 1) hx hb dL_law_196 (by decide) ?_
    refine lv_iadd hx hb dL_law_197 ?_
    refine lv_topi (fun t_51 et_51 => ?_)
    obtain rfl : t_51 = nI (3 * k + 1) := et_51.trans (nI_c _ 1)
    refine h_sld hx hb hXX hbl hbA hw (j := (3 * k + 1)) (by omega) (by omega) dL_law_198 ?_
    refine lv_aload_n hx hb dL_law_199 rfl (lv_at hl 5 rfl) ?_
    refine lv_iload hx hb dL_law_200 (lv_at hl 1 rfl) ?_
    refine lv_iconst (v := 2) hx hb dL_law_202 (by decide) ?_
    refine lv_iadd hx hb dL_law_203 ?_
    refine lv_topi (fun t_52 et_52 => ?_)
    obtain rfl : t_52 = nI (3 * k + 2) := et_52.trans (nI_c _ 2)
    refine h_sld hx hb hXX hbl hbA hw (j := (3 * k + 2)) (by omega) (by omega) dL_law_204 ?_
    refine h_callV (n := 2) (ci := 10) (b := mo) (As := [.int (xs (3 * k + 1)), .int (xs (3 * k + 2))]) (rest := []) ⟨hx, hb, hml, hown, hts⟩ hK hw (c_X10_point l D dT ah9 H_5.size mo AR q g hm ns _ np nr no hN FG RC PF PC (f 0) (f 1) PA hMS OP hq (xs (3 * k + 1)) (xs (3 * k + 2))) ko_X10_point km_L_62 ki_X10_point ks_X10_point kn_X10 (by decide +kernel) rfl hm.1 rfl hl.1 rfl (by simp [Value.category]) dL_law_205 (by rw [hR]; exact ⟨rfl, rfl, Nat.le_of_ble_eq_true rfl, Nat.le_of_ble_eq_true rfl, by show _ ≤ 601024; omega, by show _ ≤ 7293034; omega⟩) (fun r_53 ah_54 H_55 L_56 st_57 hp hw hst => ?_)
    rcases hp with ⟨m1, rfl, eah_54⟩ | ⟨m1, m2, rfl, eah_54⟩ | ⟨m1, m2, m3, rfl, eah_54⟩ | ⟨m1, m2, m3, rfl, q2, g2, hm2, hN2, hq0, k9, k10, k8, kr, hFr2⟩
    · skip
      exfalso
      exact m1.elim hP.1.1 hP.1.2
    · skip
      exfalso
      exact hP.2.1 (tp_n hI m2)
    · skip
      have hm2 := moA_q hm eah_54
      have hst : st_57 = [.int 0] := hst
      subst hst
      refine lv_istore (lv' := [(6, .int 0), (5, .int 3), (4, .int (nI (3 * k))), (3, .ref out), (2, .ref mo), (1, .ref sj), (0, .ref b)]) hx hb dL_law_208 hl (by decide) rfl (fun ls hl => ?_)
      refine lv_aload_n hx hb dL_law_210 rfl (lv_at hl 4 rfl) ?_
      refine h_callV (n := 0) (ci := 10) (b := mo) (As := []) (rest := []) ⟨hx, hb, hml, hown, hts⟩ hK hw (c_X10_thrown l D dT ah_54 H_55.size mo AR (upd q 0 3) g hm2) ko_X10_thrown km_L_52 ki_X10_thrown ks_X10_thrown kn_X10 (by decide +kernel) rfl hm2.1 rfl hl.1 rfl (by simp [Value.category]) dL_law_211 (by rw [hR]; exact ⟨rfl, rfl, Nat.le_of_ble_eq_true rfl, Nat.le_of_ble_eq_true rfl, by show _ ≤ 601024; omega, by show _ ≤ 7293034; omega⟩) (fun r_58 ah_59 H_60 L_61 st_62 hp hw hst => ?_)
      obtain ⟨rfl, rfl⟩ := hp
      rw [show (upd q 0 3) 0 = 3 from upd_e] at hst
      have hst : st_62 = [.int 3] := hst
      subst hst
      refine lv_iload hx hb dL_law_214 (lv_at hl 1 rfl) ?_
      refine lv_icmp_eq (tgt := 221) hx hb dL_law_216 (by decide) (fun c_63 => ?_) (fun c_63 => ?_)
      · skip
        refine lv_iload hx hb dL_law_221 (lv_at hl 1 rfl) ?_
        refine lv_if_ne (tgt := 238) hx hb dL_law_223 (by decide) (fun c_64 => ?_) (fun c_64 => ?_)
        · skip
          refine lv_goto (tgt := 385) hx hb dL_law_238 (by decide) ?_
          exact kk ls ah_54 _ _ _ _ _ _ (lw_same hj hm hI ho hS hcnt (q2 := upd q 0 3) (fun i h1 h2 => upd_n (by omega)) eah_54) hw ((by cases jd <;> simp at hcb hsb ⊢ <;> omega)) ((by cases jd <;> simp at hcb hsb ⊢ <;> omega)) (lv_sub hl [2, 3, 4, 5, 6] rfl)
        · exact absurd c_64 (by decide)
      · exact absurd c_63 (by decide)
    · skip
      exfalso
      have := hP.2.2; omega

set_option maxHeartbeats 4000000 in
set_option maxRecDepth 100000 in
theorem st_close {p : Program} {l : Launch} {e : Env} {R : Room} {s : State} {m : MethodId} {args : Array Value} {below : List Frame} {meth : Method} {c : Code} {Q : State → Prop} {D : va_G} {dT : Nat → ClassId} {b L : Nat} {xs : Nat → Int32} (hlt : l.stackTraces = false) (hR : R = room_1) (ah : hA) (hC9 : lwC p s m meth c D dT args b L xs ah) (hL : L ≤ 1536) {k sj mo out cr sr : Nat} (hkL : 3 * k + 3 ≤ L) {ah9 : hA} {H9 : Heap} {L9 : List Loc} {ls : Array Slot} {cl9 sl9 : Nat} (hI : lwI dT ah9 sj mo out k cr sr) (hw : hW D ah s.heap ah9 H9 L9) (hcb : cl9 + cr ≤ 100 + 13 * k) (hsb : sl9 + sr ≤ 40000 + 5143 * k) (hl : lv_has ls 7 [(4, .int (nI (3 * k))), (3, .ref out), (2, .ref mo), (1, .ref sj), (0, .ref b)])
    (kk : ∀ (ls : Array Slot) (ah2 : hA) (H2 : Heap) (L2 : List Loc) (cl2 sl2 cr2 sr2 : Nat), lwI dT ah2 sj mo out (k + 1) cr2 sr2 → hW D ah s.heap ah2 H2 L2 → cl2 + cr2 ≤ 100 + 13 * (k + 1) → sl2 + sr2 ≤ 40000 + 5143 * (k + 1) → lv_has ls 7 [(4, .int (nI (3 * k))), (3, .ref out), (2, .ref mo), (1, .ref sj), (0, .ref b)] → W p l e R s m args below meth c H2 L2 cl2 sl2 Q (F0 m 385 ls [])) : W p l e R s m args below meth c H9 L9 cl9 sl9 Q (F0 m 241 ls []) := by
  obtain ⟨hx, hb, hml, hown, hts, hK, hX9, hY9, hXX, hbl, hbA⟩ := hC9
  obtain ⟨sh, fd, ins, pa, mt, RO, RA, cap, AR, ns, nc, np, nr, no, f, g, q, wh, pl, jd, FC, FP, FG, RC, PF, PC, RP, RN, OP, PA, fL, hj, hm, hI, ho, hS, hcnt, rfl, rfl⟩ := hI
  have hbb := jI_b hI
  have hN := hI.2.1
  have hMS := hI.1.2.1
  have hq := hOQ hI
  have hrw := rw_b hj
  refine lv_aload_n hx hb dL_law_241 rfl (lv_at hl 3 rfl) ?_
  refine lv_aload_n hx hb dL_law_242 rfl (lv_at hl 1 rfl) ?_
  refine h_callSH (n := 2) (As := [.ref sj, .ref out]) (rest := []) ⟨hx, hb, hml, hown, hts⟩ hK hX9 hY9 hw (c_L_close l D dT ah9 H9.size sj out _ hj.1 fL  6 90 1 6 _ _ (c_X9_close l D dT ah9 H9.size hlt sj sh fd ins pa mt RO RA cap ns nc np no nr f wh pl jd hj) (fun r9 ah9 h9 => ⟨_, h9.2.1, o_keep hj h9.2.2.2 ho⟩) (fun E h9 => h9.1)) ko_L_close km_L_63 kt_L_close kn_L (by decide +kernel) rfl hl.1 rfl (by simp [Value.category]) dL_law_243 (by rw [hR]; exact ⟨rfl, rfl, Nat.le_of_ble_eq_true rfl, Nat.le_of_ble_eq_true rfl, by show _ ≤ 601024; omega, by show _ ≤ 7293034; omega⟩) (fun r_1 ah_2 H_3 L_4 st_5 hp hw hst => ?_)
  rcases hp with ⟨v, ahX, hpX, rfl, e1⟩ | ⟨hpx, rfl, rfl⟩
  · skip
    obtain ⟨hr1, hv, hj2, hkK⟩ := hpX
    cases hv
    have hoX := o_keep hj hkK ho
    have hmX := m_keep hj hm hS hkK
    have hm1 : moA dT ah_2 mo AR q g := by rw [e1]; exact out_up hmX hoX
    have hj1 : cjA dT ah_2 sj sh fd ins pa mt RO RA cap ns nc np (no - 1) nr f wh pl jd := by rw [e1]; exact out_cj hj2 hoX
    have ho1 : ah_2 out = some (.inl (dT 1, 1, .inr (.inl (vp_updL fL 0 (nI (no - 1)).toInt64)))) := by rw [e1]; exact hup_s
    have hst : st_5 = [.int 0] := hst
    subst hst
    refine lv_istore (lv' := [(5, .int 0), (4, .int (nI (3 * k))), (3, .ref out), (2, .ref mo), (1, .ref sj), (0, .ref b)]) hx hb dL_law_246 hl (by decide) rfl (fun ls hl => ?_)
    refine lv_aload_n hx hb dL_law_248 rfl (lv_at hl 3 rfl) ?_
    refine h_callV (n := 0) (ci := 10) (b := mo) (As := []) (rest := []) ⟨hx, hb, hml, hown, hts⟩ hK hw (c_X10_close l D dT ah_2 H_3.size mo AR q g hm1 ns _ np nr no hN) ko_X10_close km_L_66 ki_X10_close ks_X10_close kn_X10 (by decide +kernel) rfl hm1.1 rfl hl.1 rfl (by simp [Value.category]) dL_law_249 (by rw [hR]; exact ⟨rfl, rfl, Nat.le_of_ble_eq_true rfl, Nat.le_of_ble_eq_true rfl, by show _ ≤ 601024; omega, by show _ ≤ 7293034; omega⟩) (fun r_6 ah_7 H_8 L_9 st_10 hp hw hst => ?_)
    rcases hp with ⟨m1, rfl, eah_7⟩ | ⟨m1, rfl, eah_7⟩
    · skip
      exfalso
      exact hr1 m1
    · skip
      have hm2 := moA_q hm1 eah_7
      have hFr2 : moFr ah_2 ah_7 mo AR := fr_up eah_7
      have ho2 := oc_keep hm1 hFr2 ho1
      have hI2 := jI_close hI m1 (q2 := (upd (upd q 0 0) 5 (nI (no - 1)))) ⟨hN.1, hN.2.1, hN.2.2.1, hN.2.2.2.1, rfl, by omega, by omega, by omega, by omega, rfl⟩
      have hst : st_10 = [.int (nI (no - 1))] := hst
      subst hst
      refine lv_istore (lv' := [(6, .int (nI (no - 1))), (5, .int 0), (4, .int (nI (3 * k))), (3, .ref out), (2, .ref mo), (1, .ref sj), (0, .ref b)]) hx hb dL_law_252 hl (by decide) rfl (fun ls hl => ?_)
      refine lv_aload_n hx hb dL_law_254 rfl (lv_at hl 4 rfl) ?_
      refine h_callV (n := 0) (ci := 10) (b := mo) (As := []) (rest := []) ⟨hx, hb, hml, hown, hts⟩ hK hw (c_X10_thrown l D dT ah_7 H_8.size mo AR (upd (upd q 0 0) 5 (nI (no - 1))) g hm2) ko_X10_thrown km_L_52 ki_X10_thrown ks_X10_thrown kn_X10 (by decide +kernel) rfl hm2.1 rfl hl.1 rfl (by simp [Value.category]) dL_law_255 (by rw [hR]; exact ⟨rfl, rfl, Nat.le_of_ble_eq_true rfl, Nat.le_of_ble_eq_true rfl, by show _ ≤ 601024; omega, by show _ ≤ 7293034; omega⟩) (fun r_11 ah_12 H_13 L_14 st_15 hp hw hst => ?_)
      obtain ⟨rfl, rfl⟩ := hp
      rw [show (upd (upd q 0 0) 5 (nI (no - 1))) 0 = 0 from rfl] at hst
      have hst : st_15 = [.int 0] := hst
      subst hst
      refine lv_iload hx hb dL_law_258 (lv_at hl 1 rfl) ?_
      refine lv_icmp_eq (tgt := 265) hx hb dL_law_260 (by decide) (fun c_16 => ?_) (fun c_16 => ?_)
      · skip
        refine lv_iload hx hb dL_law_265 (lv_at hl 1 rfl) ?_
        refine lv_if_ne (tgt := 282) hx hb dL_law_267 (by decide) (fun c_17 => ?_) (fun c_17 => ?_)
        · exact absurd c_17 (by decide)
        · skip
          refine lv_aload_n hx hb dL_law_270 rfl (lv_at hl 3 rfl) ?_
          refine lv_iconst (v := 0) hx hb dL_law_271 (by decide) ?_
          refine h_lald hx hb hK hw ho2 0 (by decide) (by omega) (by omega) dL_law_272 ?_
          rw [show (vp_updL fL 0 (nI (no - 1)).toInt64) 0 = (nI (no - 1)).toInt64 from rfl]
          refine lv_iload hx hb dL_law_273 (lv_at hl 0 rfl) ?_
          refine lv_i2l (v := (nI (no - 1)).toInt64) hx hb dL_law_275 rfl ?_
          refine W.lcmp hx hb dL_law_276 ?_
          refine lv_if_eq (tgt := 282) hx hb dL_law_277 (by decide) (fun c_18 => ?_) (fun c_18 => ?_)
          · skip
            have c_18 : (nI (no - 1)).toInt64 = (nI (no - 1)).toInt64 := lgc_eq.mp c_18
            refine lv_goto (tgt := 385) hx hb dL_law_282 (by decide) ?_
            exact kk ls ah_7 _ _ _ _ _ _ (⟨sh, fd, ins, pa, mt, RO, RA, cap, AR, ns, nc, np, nr, no - 1, f, g, _, wh, pl, jd, _, _, _, _, _, _, _, _, _, _, _, c_keep hj1 hm1 hS hFr2, hm2, hI2, oc_keep hm1 hFr2 ho1, hS, by omega, rfl, rfl⟩) hw (by cases jd <;> simp at hcb hsb ⊢ <;> omega) (by cases jd <;> simp at hcb hsb ⊢ <;> omega) (lv_sub hl [2, 3, 4, 5, 6] rfl)
          · skip
            have c_18 : ¬ ((nI (no - 1)).toInt64 = (nI (no - 1)).toInt64) := (not_congr lgc_eq).mp c_18
            exfalso
            exact absurd rfl c_18
      · exact absurd c_16 (by decide)
  · skip
    have hP : no = 0 := hpx.2
    have hst : st_5 = [.int 1] := hst
    subst hst
    refine lv_istore (lv' := [(5, .int 1), (4, .int (nI (3 * k))), (3, .ref out), (2, .ref mo), (1, .ref sj), (0, .ref b)]) hx hb dL_law_246 hl (by decide) rfl (fun ls hl => ?_)
    refine lv_aload_n hx hb dL_law_248 rfl (lv_at hl 3 rfl) ?_
    refine h_callV (n := 0) (ci := 10) (b := mo) (As := []) (rest := []) ⟨hx, hb, hml, hown, hts⟩ hK hw (c_X10_close l D dT ah9 H_3.size mo AR q g hm ns _ np nr no hN) ko_X10_close km_L_66 ki_X10_close ks_X10_close kn_X10 (by decide +kernel) rfl hm.1 rfl hl.1 rfl (by simp [Value.category]) dL_law_249 (by rw [hR]; exact ⟨rfl, rfl, Nat.le_of_ble_eq_true rfl, Nat.le_of_ble_eq_true rfl, by show _ ≤ 601024; omega, by show _ ≤ 7293034; omega⟩) (fun r_19 ah_20 H_21 L_22 st_23 hp hw hst => ?_)
    rcases hp with ⟨m1, rfl, eah_20⟩ | ⟨m1, rfl, eah_20⟩
    · skip
      have hm2 := moA_q hm eah_20
      have hst : st_23 = [.int 0] := hst
      subst hst
      refine lv_istore (lv' := [(6, .int 0), (5, .int 1), (4, .int (nI (3 * k))), (3, .ref out), (2, .ref mo), (1, .ref sj), (0, .ref b)]) hx hb dL_law_252 hl (by decide) rfl (fun ls hl => ?_)
      refine lv_aload_n hx hb dL_law_254 rfl (lv_at hl 4 rfl) ?_
      refine h_callV (n := 0) (ci := 10) (b := mo) (As := []) (rest := []) ⟨hx, hb, hml, hown, hts⟩ hK hw (c_X10_thrown l D dT ah_20 H_21.size mo AR (upd q 0 1) g hm2) ko_X10_thrown km_L_52 ki_X10_thrown ks_X10_thrown kn_X10 (by decide +kernel) rfl hm2.1 rfl hl.1 rfl (by simp [Value.category]) dL_law_255 (by rw [hR]; exact ⟨rfl, rfl, Nat.le_of_ble_eq_true rfl, Nat.le_of_ble_eq_true rfl, by show _ ≤ 601024; omega, by show _ ≤ 7293034; omega⟩) (fun r_24 ah_25 H_26 L_27 st_28 hp hw hst => ?_)
      obtain ⟨rfl, rfl⟩ := hp
      rw [show (upd q 0 1) 0 = 1 from upd_e] at hst
      have hst : st_28 = [.int 1] := hst
      subst hst
      refine lv_iload hx hb dL_law_258 (lv_at hl 1 rfl) ?_
      refine lv_icmp_eq (tgt := 265) hx hb dL_law_260 (by decide) (fun c_29 => ?_) (fun c_29 => ?_)
      · skip
        refine lv_iload hx hb dL_law_265 (lv_at hl 1 rfl) ?_
        refine lv_if_ne (tgt := 282) hx hb dL_law_267 (by decide) (fun c_30 => ?_) (fun c_30 => ?_)
        · skip
          refine lv_goto (tgt := 385) hx hb dL_law_282 (by decide) ?_
          exact kk ls ah_20 _ _ _ _ _ _ (lw_same hj hm hI ho hS hcnt (q2 := upd q 0 1) (fun i h1 h2 => upd_n (by omega)) eah_20) hw ((by cases jd <;> simp at hcb hsb ⊢ <;> omega)) ((by cases jd <;> simp at hcb hsb ⊢ <;> omega)) (lv_sub hl [2, 3, 4, 5, 6] rfl)
        · exact absurd c_30 (by decide)
      · exact absurd c_29 (by decide)
    · skip
      exfalso
      exact m1 hP

set_option maxHeartbeats 4000000 in
set_option maxRecDepth 100000 in
theorem c_X9_judgeX (l : Launch) (D : va_G) (dT : Nat → ClassId) (ah : hA) (sz : Nat) (hlt : l.stackTraces = false) (sj sh fd ins pa mt : Nat) (RO RA cap : Nat → Nat) (ns nc np no rc : Nat) (f : Nat → Nat → Int32) (wh : Int32) (pl : Nat → Int32) (jd : Bool) (hj : cjA dT ah sj sh fd ins pa mt RO RA cap ns nc np no rc f wh pl jd) (hwf : shWhole ns no = false) : hMetX l yX9_judge cX9_judge 2 (some .int) ({ frames := 7, cells := 1, slots := 6, locals := 181 }) D dT [.ref sj] ah sz (fun r ah2 => False) (fun E => E = "java/lang/IllegalStateException" ∧ shWhole ns no = false) 1 6 := by
  refine h_metX (by decide) (Nat.le_of_ble_eq_true rfl) ?_
  intro p e s m below meth c ls R Q args hav hR hQ hB hl hsz hw hX9 hET
  obtain ⟨hx, hb, hml, hr, hts, hown, hlk, hin, hK⟩ := hB
  have hown : s.vm.findClass RX9 = some m.cls := hown
  have hl : lv_has ls 2 [(0, .ref sj)] := hl
  obtain ⟨hsj, ⟨shp, mx, my, hi9⟩, hs, hpa⟩ := hj
  have hb0 : ns ≤ cap 0 ∧ 32 ≤ cap 0 ∧ cap 0 ≤ 40000 := (hs.2.1 0 (by omega)).2.2
  have hb1 : ns ≤ cap 1 ∧ 32 ≤ cap 1 ∧ cap 1 ≤ 40000 := (hs.2.1 1 (by omega)).2.2
  have hb2 : ns ≤ cap 2 ∧ 32 ≤ cap 2 ∧ cap 2 ≤ 40000 := (hs.2.1 2 (by omega)).2.2
  have hb3 : nc ≤ cap 3 ∧ 32 ≤ cap 3 ∧ cap 3 ≤ 40000 := (hs.2.1 3 (by omega)).2.2
  have hb4 : np ≤ cap 4 ∧ 32 ≤ cap 4 ∧ cap 4 ≤ 40000 := (hs.2.1 4 (by omega)).2.2
  have hb5 : np ≤ cap 5 ∧ 32 ≤ cap 5 ∧ cap 5 ≤ 40000 := (hs.2.1 5 (by omega)).2.2
  have hb6 : no ≤ cap 6 ∧ 32 ≤ cap 6 ∧ cap 6 ≤ 40000 := (hs.2.1 6 (by omega)).2.2
  refine lv_aload_n hx hb dX9_judge_0 rfl (lv_at hl 0 rfl) ?_
  refine h_get (ci := 9) (v := .ref sh) (C := RX9) (T := TX9) (N := 4) hx hb hts kl_X9 hown hK hw hsj rfl 0 (by decide) (hts _ kf_X9_10) rfl rfl dX9_judge_1 ?_
  refine h_callV (n := 0) (ci := 8) (b := sh) (As := []) (rest := []) ⟨hx, hb, hml, hown, hts⟩ hK hw (c_X8_isWhole l D dT ah s.heap.size sh RO RA cap ns nc np no rc f hs ) ko_X8_isWhole km_X9_105 ki_X8_isWhole ks_X8_isWhole kn_X8 (by decide +kernel) rfl hs.1 rfl hl.1 rfl (by simp [Value.category]) dX9_judge_4 (by rw [hR]; exact ⟨rfl, rfl, Nat.le_of_ble_eq_true rfl, Nat.le_of_ble_eq_true rfl, (by dsimp only; omega), (by dsimp only; omega)⟩) (fun r_1 ah_2 H_3 L_4 st_5 hp hw hst => ?_)
  obtain ⟨rfl, rfl⟩ := hp
  have hst : st_5 = [.int (bI (shWhole ns no))] := hst
  subst hst
  refine lv_if_ne (tgt := 20) hx hb dX9_judge_7 (by decide) (fun c_6 => ?_) (fun c_6 => ?_)
  · skip
    have c_6 : ¬ (shWhole ns no = false) := (not_congr bI_0).mp c_6
    exfalso
    exact absurd hwf c_6
  · skip
    have c_6 : shWhole ns no = false := bI_0.mp c_6
    rw [hQ]
    exact h_throw hx hb hlt hown (by decide +kernel) hts kc_X9_55 kn_ISE hX9 (List.mem_of_getElem? (i := 8) rfl) xl_ISE xg_ISE hw (by rw [hml]; exact hl.1) hsz dX9_judge_10 dX9_judge_13 dX9_judge_14 dX9_judge_16 dX9_judge_19 hET (by rw [hR]; exact Nat.le_of_ble_eq_true rfl) (by rw [hR]; exact Nat.le_of_ble_eq_true rfl) (by rw [hR]; dsimp only; omega) (by rw [hR]; dsimp only; omega) hlk (⟨rfl, hwf⟩) (by omega) (by omega)

set_option maxHeartbeats 4000000 in
set_option maxRecDepth 100000 in
theorem st_judge {p : Program} {l : Launch} {e : Env} {R : Room} {s : State} {m : MethodId} {args : Array Value} {below : List Frame} {meth : Method} {c : Code} {Q : State → Prop} {D : va_G} {dT : Nat → ClassId} {b L : Nat} {xs : Nat → Int32} (hlt : l.stackTraces = false) (hR : R = room_1) (ah : hA) (hC9 : lwC p s m meth c D dT args b L xs ah) (hL : L ≤ 1536) {k sj mo out cr sr : Nat} (hkL : 3 * k + 3 ≤ L) {ah9 : hA} {H9 : Heap} {L9 : List Loc} {ls : Array Slot} {cl9 sl9 : Nat} (hI : lwI dT ah9 sj mo out k cr sr) (hw : hW D ah s.heap ah9 H9 L9) (hcb : cl9 + cr ≤ 100 + 13 * k) (hsb : sl9 + sr ≤ 40000 + 5143 * k) (hl : lv_has ls 7 [(4, .int (nI (3 * k))), (3, .ref out), (2, .ref mo), (1, .ref sj), (0, .ref b)])
    (kk : ∀ (ls : Array Slot) (ah2 : hA) (H2 : Heap) (L2 : List Loc) (cl2 sl2 cr2 sr2 : Nat), lwI dT ah2 sj mo out (k + 1) cr2 sr2 → hW D ah s.heap ah2 H2 L2 → cl2 + cr2 ≤ 100 + 13 * (k + 1) → sl2 + sr2 ≤ 40000 + 5143 * (k + 1) → lv_has ls 7 [(4, .int (nI (3 * k))), (3, .ref out), (2, .ref mo), (1, .ref sj), (0, .ref b)] → W p l e R s m args below meth c H2 L2 cl2 sl2 Q (F0 m 385 ls [])) : W p l e R s m args below meth c H9 L9 cl9 sl9 Q (F0 m 285 ls []) := by
  obtain ⟨hx, hb, hml, hown, hts, hK, hX9, hY9, hXX, hbl, hbA⟩ := hC9
  obtain ⟨sh, fd, ins, pa, mt, RO, RA, cap, AR, ns, nc, np, nr, no, f, g, q, wh, pl, jd, FC, FP, FG, RC, PF, PC, RP, RN, OP, PA, fL, hj, hm, hI, ho, hS, hcnt, rfl, rfl⟩ := hI
  have hbb := jI_b hI
  have hN := hI.2.1
  have hMS := hI.1.2.1
  have hq := hOQ hI
  have hrw := rw_b hj
  by_cases hwf : shWhole ns no = false
  · have hwf9 := hwf
    refine lv_aload_n hx hb dL_law_285 rfl (lv_at hl 3 rfl) ?_
    refine lv_aload_n hx hb dL_law_286 rfl (lv_at hl 1 rfl) ?_
    refine h_callSH (n := 2) (As := [.ref sj, .ref out]) (rest := []) ⟨hx, hb, hml, hown, hts⟩ hK hX9 hY9 hw (c_L_judge l D dT ah9 H9.size sj out _ hj.1 fL  7 181 1 6 _ _ (c_X9_judgeX l D dT ah9 H9.size hlt sj sh fd ins pa mt RO RA cap ns nc np no nr f wh pl jd hj hwf) (fun r9 ah9 h9 => False.elim h9) (fun E h9 => h9.1)) ko_L_judge km_L_67 kt_L_judge kn_L (by decide +kernel) rfl hl.1 rfl (by simp [Value.category]) dL_law_287 (by rw [hR]; exact ⟨rfl, rfl, Nat.le_of_ble_eq_true rfl, Nat.le_of_ble_eq_true rfl, by show _ ≤ 601024; (cases jd <;> simp at hcb hsb ⊢ <;> omega), by show _ ≤ 7293034; (cases jd <;> simp at hcb hsb ⊢ <;> omega)⟩) (fun r_1 ah_2 H_3 L_4 st_5 hp hw hst => ?_)
    rcases hp with ⟨v, ahX, hpX, rfl, e1⟩ | ⟨hpx, rfl, rfl⟩
    · skip
      exact False.elim hpX
    · skip
      have hP : shWhole ns no = false := hpx.2
      have hst : st_5 = [.int 1] := hst
      subst hst
      refine lv_istore (lv' := [(5, .int 1), (4, .int (nI (3 * k))), (3, .ref out), (2, .ref mo), (1, .ref sj), (0, .ref b)]) hx hb dL_law_290 hl (by decide) rfl (fun ls hl => ?_)
      refine lv_aload_n hx hb dL_law_292 rfl (lv_at hl 3 rfl) ?_
      refine h_callV (n := 0) (ci := 10) (b := mo) (As := []) (rest := []) ⟨hx, hb, hml, hown, hts⟩ hK hw (c_X10_judge l D dT ah9 H_3.size mo AR q g hm np (f 4) (f 5) hI.1.2.2.1 nr RP RN hI.1.2.2.2.1 ns FG RC PF PC (f 0) (f 1) PA hMS _ rfl _ rfl no hN.1 ⟨hN.2.2.2.2.1, hbb.2.2.1⟩) ko_X10_judge km_L_69 ki_X10_judge ks_X10_judge kn_X10 (by decide +kernel) rfl hm.1 rfl hl.1 rfl (by simp [Value.category]) dL_law_293 (by rw [hR]; exact ⟨rfl, rfl, Nat.le_of_ble_eq_true rfl, Nat.le_of_ble_eq_true rfl, by show _ ≤ 601024; omega, by show _ ≤ 7293034; omega⟩) (fun r_6 ah_7 H_8 L_9 st_10 hp hw hst => ?_)
      rcases hp with ⟨m1, rfl, eah_7⟩ | ⟨m1, v9, q2, g2, rfl, hK2, hRs⟩
      · skip
        have hm2 := moA_q hm eah_7
        have hst : st_10 = [.int 0] := hst
        subst hst
        refine lv_istore (lv' := [(6, .int 0), (5, .int 1), (4, .int (nI (3 * k))), (3, .ref out), (2, .ref mo), (1, .ref sj), (0, .ref b)]) hx hb dL_law_296 hl (by decide) rfl (fun ls hl => ?_)
        refine lv_aload_n hx hb dL_law_298 rfl (lv_at hl 4 rfl) ?_
        refine h_callV (n := 0) (ci := 10) (b := mo) (As := []) (rest := []) ⟨hx, hb, hml, hown, hts⟩ hK hw (c_X10_thrown l D dT ah_7 H_8.size mo AR (upd q 0 1) g hm2) ko_X10_thrown km_L_52 ki_X10_thrown ks_X10_thrown kn_X10 (by decide +kernel) rfl hm2.1 rfl hl.1 rfl (by simp [Value.category]) dL_law_299 (by rw [hR]; exact ⟨rfl, rfl, Nat.le_of_ble_eq_true rfl, Nat.le_of_ble_eq_true rfl, by show _ ≤ 601024; omega, by show _ ≤ 7293034; omega⟩) (fun r_11 ah_12 H_13 L_14 st_15 hp hw hst => ?_)
        obtain ⟨rfl, rfl⟩ := hp
        rw [show (upd q 0 1) 0 = 1 from upd_e] at hst
        have hst : st_15 = [.int 1] := hst
        subst hst
        refine lv_iload hx hb dL_law_302 (lv_at hl 1 rfl) ?_
        refine lv_icmp_eq (tgt := 309) hx hb dL_law_304 (by decide) (fun c_16 => ?_) (fun c_16 => ?_)
        · skip
          refine lv_iload hx hb dL_law_309 (lv_at hl 1 rfl) ?_
          refine lv_if_ne (tgt := 326) hx hb dL_law_311 (by decide) (fun c_17 => ?_) (fun c_17 => ?_)
          · skip
            refine lv_goto (tgt := 385) hx hb dL_law_326 (by decide) ?_
            exact kk ls ah_7 _ _ _ _ _ _ (lw_same hj hm hI ho hS hcnt (q2 := upd q 0 1) (fun i h1 h2 => upd_n (by omega)) eah_7) hw ((by cases jd <;> simp at hcb hsb ⊢ <;> omega)) ((by cases jd <;> simp at hcb hsb ⊢ <;> omega)) (lv_sub hl [2, 3, 4, 5, 6] rfl)
          · exact absurd c_17 (by decide)
        · exact absurd c_16 (by decide)
      · skip
        exfalso
        exact wh_y m1 hP
  · have hwf9 := hwf
    refine lv_aload_n hx hb dL_law_285 rfl (lv_at hl 3 rfl) ?_
    refine lv_aload_n hx hb dL_law_286 rfl (lv_at hl 1 rfl) ?_
    refine h_callSH (n := 2) (As := [.ref sj, .ref out]) (rest := []) ⟨hx, hb, hml, hown, hts⟩ hK hX9 hY9 hw (c_L_judge l D dT ah9 H9.size sj out _ hj.1 fL  7 181 (1 + (if jd = true then 0 else 5 * ns + 3 * nc + 2 * np)) (6 + (if jd = true then 0 else 3 * ns + 14 * nc + 13 * np)) _ _ (c_X9_judge l D dT ah9 H9.size hlt sj sh fd ins pa mt RO RA cap ns nc np no nr f wh pl jd hj FC FP hI.1.1 (jg_ln hI) (jg_m3 hI) (fun h9 => (hI.2.2.2.1 h9).1)) (fun r9 ah9 h9 => by obtain ⟨-, wh2, pl2, h1, -, hk9, -⟩ := h9; exact ⟨_, h1, o_keep hj hk9 ho⟩) (fun E h9 => h9.1)) ko_L_judge km_L_67 kt_L_judge kn_L (by decide +kernel) rfl hl.1 rfl (by simp [Value.category]) dL_law_287 (by rw [hR]; exact ⟨rfl, rfl, Nat.le_of_ble_eq_true rfl, Nat.le_of_ble_eq_true rfl, by show _ ≤ 601024; (cases jd <;> simp at hcb hsb ⊢ <;> omega), by show _ ≤ 7293034; (cases jd <;> simp at hcb hsb ⊢ <;> omega)⟩) (fun r_1 ah_2 H_3 L_4 st_5 hp hw hst => ?_)
    rcases hp with ⟨v, ahX, hpX, rfl, e1⟩ | ⟨hpx, rfl, rfl⟩
    · skip
      obtain ⟨hr1, wh2, pl2, hv, hj2, hkK, hJ1, hJ2⟩ := hpX
      cases hv
      have hoX := o_keep hj hkK ho
      have hmX := m_keep hj hm hS hkK
      have hm1 : moA dT ah_2 mo AR q g := by rw [e1]; exact out_up hmX hoX
      have hj1 : cjA dT ah_2 sj sh fd ins pa mt RO RA cap ns nc np no nr f v pl2 true := by rw [e1]; exact out_cj hj2 hoX
      have ho1 : ah_2 out = some (.inl (dT 1, 1, .inr (.inl (vp_updL fL 0 v.toInt64)))) := by rw [e1]; exact hup_s
      have hst : st_5 = [.int 0] := hst
      subst hst
      refine lv_istore (lv' := [(5, .int 0), (4, .int (nI (3 * k))), (3, .ref out), (2, .ref mo), (1, .ref sj), (0, .ref b)]) hx hb dL_law_290 hl (by decide) rfl (fun ls hl => ?_)
      refine lv_aload_n hx hb dL_law_292 rfl (lv_at hl 3 rfl) ?_
      refine h_callV (n := 0) (ci := 10) (b := mo) (As := []) (rest := []) ⟨hx, hb, hml, hown, hts⟩ hK hw (c_X10_judge l D dT ah_2 H_3.size mo AR q g hm1 np (f 4) (f 5) hI.1.2.2.1 nr RP RN hI.1.2.2.2.1 ns FG RC PF PC (f 0) (f 1) PA hMS _ rfl _ rfl no hN.1 ⟨hN.2.2.2.2.1, hbb.2.2.1⟩) ko_X10_judge km_L_69 ki_X10_judge ks_X10_judge kn_X10 (by decide +kernel) rfl hm1.1 rfl hl.1 rfl (by simp [Value.category]) dL_law_293 (by rw [hR]; exact ⟨rfl, rfl, Nat.le_of_ble_eq_true rfl, Nat.le_of_ble_eq_true rfl, by show _ ≤ 601024; omega, by show _ ≤ 7293034; omega⟩) (fun r_6 ah_7 H_8 L_9 st_10 hp hw hst => ?_)
      rcases hp with ⟨m1, rfl, eah_7⟩ | ⟨m1, v9, q2, g2, rfl, hK2, hRs⟩
      · skip
        exfalso
        exact hr1 (wh_n m1)
      · skip
        have hm2 := hK2.1
        have hFr2 := fr_k hK2
        obtain ⟨hv2, hI2⟩ := jI_judge hI m1 hK2 hJ1 hJ2 hRs
        rw [hv2] at hst
        have ho2 := oc_keep hm1 hFr2 ho1
        have hst : st_10 = [.int v] := hst
        subst hst
        refine lv_istore (lv' := [(6, .int v), (5, .int 0), (4, .int (nI (3 * k))), (3, .ref out), (2, .ref mo), (1, .ref sj), (0, .ref b)]) hx hb dL_law_296 hl (by decide) rfl (fun ls hl => ?_)
        refine lv_aload_n hx hb dL_law_298 rfl (lv_at hl 4 rfl) ?_
        refine h_callV (n := 0) (ci := 10) (b := mo) (As := []) (rest := []) ⟨hx, hb, hml, hown, hts⟩ hK hw (c_X10_thrown l D dT ah_7 H_8.size mo AR q2 g2 hm2) ko_X10_thrown km_L_52 ki_X10_thrown ks_X10_thrown kn_X10 (by decide +kernel) rfl hm2.1 rfl hl.1 rfl (by simp [Value.category]) dL_law_299 (by rw [hR]; exact ⟨rfl, rfl, Nat.le_of_ble_eq_true rfl, Nat.le_of_ble_eq_true rfl, by show _ ≤ 601024; omega, by show _ ≤ 7293034; omega⟩) (fun r_11 ah_12 H_13 L_14 st_15 hp hw hst => ?_)
        obtain ⟨rfl, rfl⟩ := hp
        rw [show q2 0 = 0 from (hK2.2.1 0 (by decide))] at hst
        have hst : st_15 = [.int 0] := hst
        subst hst
        refine lv_iload hx hb dL_law_302 (lv_at hl 1 rfl) ?_
        refine lv_icmp_eq (tgt := 309) hx hb dL_law_304 (by decide) (fun c_16 => ?_) (fun c_16 => ?_)
        · skip
          refine lv_iload hx hb dL_law_309 (lv_at hl 1 rfl) ?_
          refine lv_if_ne (tgt := 326) hx hb dL_law_311 (by decide) (fun c_17 => ?_) (fun c_17 => ?_)
          · exact absurd c_17 (by decide)
          · skip
            refine lv_aload_n hx hb dL_law_314 rfl (lv_at hl 3 rfl) ?_
            refine lv_iconst (v := 0) hx hb dL_law_315 (by decide) ?_
            refine h_lald hx hb hK hw ho2 0 (by decide) (by omega) (by omega) dL_law_316 ?_
            rw [show (vp_updL fL 0 v.toInt64) 0 = v.toInt64 from rfl]
            refine lv_iload hx hb dL_law_317 (lv_at hl 0 rfl) ?_
            refine lv_i2l (v := (v).toInt64) hx hb dL_law_319 rfl ?_
            refine W.lcmp hx hb dL_law_320 ?_
            refine lv_if_eq (tgt := 326) hx hb dL_law_321 (by decide) (fun c_18 => ?_) (fun c_18 => ?_)
            · skip
              have c_18 : v.toInt64 = (v).toInt64 := lgc_eq.mp c_18
              refine lv_goto (tgt := 385) hx hb dL_law_326 (by decide) ?_
              exact kk ls ah_7 _ _ _ _ _ _ (⟨sh, fd, ins, pa, mt, RO, RA, cap, AR, ns, nc, np, nr, no, f, g2, q2, v, pl2, true, _, _, _, _, _, _, _, _, _, _, _, c_keep hj1 hm1 hS hFr2, hm2, hI2, oc_keep hm1 hFr2 ho1, hS, by omega, rfl, rfl⟩) hw (by cases jd <;> simp at hcb hsb ⊢ <;> omega) (by cases jd <;> simp at hcb hsb ⊢ <;> omega) (lv_sub hl [2, 3, 4, 5, 6] rfl)
            · skip
              have c_18 : ¬ (v.toInt64 = (v).toInt64) := (not_congr lgc_eq).mp c_18
              exfalso
              exact absurd rfl c_18
        · exact absurd c_16 (by decide)
    · skip
      have hP : shWhole ns no = false := hpx.2
      exact absurd hP hwf

set_option maxHeartbeats 4000000 in
set_option maxRecDepth 100000 in
theorem st_place {p : Program} {l : Launch} {e : Env} {R : Room} {s : State} {m : MethodId} {args : Array Value} {below : List Frame} {meth : Method} {c : Code} {Q : State → Prop} {D : va_G} {dT : Nat → ClassId} {b L : Nat} {xs : Nat → Int32} (hlt : l.stackTraces = false) (hR : R = room_1) (ah : hA) (hC9 : lwC p s m meth c D dT args b L xs ah) (hL : L ≤ 1536) {k sj mo out cr sr : Nat} (hkL : 3 * k + 3 ≤ L) {ah9 : hA} {H9 : Heap} {L9 : List Loc} {ls : Array Slot} {cl9 sl9 : Nat} (hI : lwI dT ah9 sj mo out k cr sr) (hw : hW D ah s.heap ah9 H9 L9) (hcb : cl9 + cr ≤ 100 + 13 * k) (hsb : sl9 + sr ≤ 40000 + 5143 * k) (hl : lv_has ls 7 [(4, .int (nI (3 * k))), (3, .ref out), (2, .ref mo), (1, .ref sj), (0, .ref b)])
    (kk : ∀ (ls : Array Slot) (ah2 : hA) (H2 : Heap) (L2 : List Loc) (cl2 sl2 cr2 sr2 : Nat), lwI dT ah2 sj mo out (k + 1) cr2 sr2 → hW D ah s.heap ah2 H2 L2 → cl2 + cr2 ≤ 100 + 13 * (k + 1) → sl2 + sr2 ≤ 40000 + 5143 * (k + 1) → lv_has ls 7 [(4, .int (nI (3 * k))), (3, .ref out), (2, .ref mo), (1, .ref sj), (0, .ref b)] → W p l e R s m args below meth c H2 L2 cl2 sl2 Q (F0 m 385 ls [])) : W p l e R s m args below meth c H9 L9 cl9 sl9 Q (F0 m 329 ls []) := by
  obtain ⟨hx, hb, hml, hown, hts, hK, hX9, hY9, hXX, hbl, hbA⟩ := hC9
  obtain ⟨sh, fd, ins, pa, mt, RO, RA, cap, AR, ns, nc, np, nr, no, f, g, q, wh, pl, jd, FC, FP, FG, RC, PF, PC, RP, RN, OP, PA, fL, hj, hm, hI, ho, hS, hcnt, rfl, rfl⟩ := hI
  have hbb := jI_b hI
  have hN := hI.2.1
  have hMS := hI.1.2.1
  have hq := hOQ hI
  have hrw := rw_b hj
  refine lv_aload_n hx hb dL_law_329 rfl (lv_at hl 3 rfl) ?_
  refine lv_aload_n hx hb dL_law_330 rfl (lv_at hl 4 rfl) ?_
  refine lv_iload hx hb dL_law_331 (lv_at hl 0 rfl) ?_
  refine lv_iconst (v := 1) hx hb dL_law_333 (by decide) ?_
  refine lv_iadd hx hb dL_law_334 ?_
  refine lv_topi (fun t_1 et_1 => ?_)
  obtain rfl : t_1 = nI (3 * k + 1) := et_1.trans (nI_c _ 1)
  refine h_sld hx hb hXX hbl hbA hw (j := (3 * k + 1)) (by omega) (by omega) dL_law_335 ?_
  refine lv_aload_n hx hb dL_law_336 rfl (lv_at hl 1 rfl) ?_
  refine h_callSH (n := 3) (As := [.ref sj, .int (xs (3 * k + 1)), .ref out]) (rest := []) ⟨hx, hb, hml, hown, hts⟩ hK hX9 hY9 hw (c_L_place l D dT ah9 H9.size sj out _ hj.1 fL (xs (3 * k + 1)) 6 90 1 6 _ _ (c_X9_place l D dT ah9 H9.size hlt sj sh fd ins pa mt RO RA cap ns nc np no nr f wh pl jd hj (xs (3 * k + 1))) (fun r9 ah9 h9 => ⟨_, h9.2.1, by rw [← h9.2.2]; exact ho⟩) (fun E h9 => h9.1)) ko_L_place km_L_70 kt_L_place kn_L (by decide +kernel) rfl hl.1 rfl (by simp [Value.category]) dL_law_337 (by rw [hR]; exact ⟨rfl, rfl, Nat.le_of_ble_eq_true rfl, Nat.le_of_ble_eq_true rfl, by show _ ≤ 601024; omega, by show _ ≤ 7293034; omega⟩) (fun r_2 ah_3 H_4 L_5 st_6 hp hw hst => ?_)
  rcases hp with ⟨v, ahX, hpX, rfl, e1⟩ | ⟨hpx, rfl, rfl⟩
  · skip
    obtain ⟨hr1, hv, hah⟩ := hpX
    cases hv
    rw [← hah] at e1
    have hm1 : moA dT ah_3 mo AR q g := by rw [e1]; exact out_up hm ho
    have hj1 : cjA dT ah_3 sj sh fd ins pa mt RO RA cap ns nc np no nr f wh pl jd := by rw [e1]; exact out_cj hj ho
    have ho1 : ah_3 out = some (.inl (dT 1, 1, .inr (.inl (vp_updL fL 0 (fdWhere pl (xs (3 * k + 1))).toInt64)))) := by rw [e1]; exact hup_s
    have hst : st_6 = [.int 0] := hst
    subst hst
    refine lv_istore (lv' := [(5, .int 0), (4, .int (nI (3 * k))), (3, .ref out), (2, .ref mo), (1, .ref sj), (0, .ref b)]) hx hb dL_law_340 hl (by decide) rfl (fun ls hl => ?_)
    refine lv_aload_n hx hb dL_law_342 rfl (lv_at hl 3 rfl) ?_
    refine lv_aload_n hx hb dL_law_343 rfl (lv_at hl 5 rfl) ?_
    refine lv_iload hx hb dL_law_344 (lv_at hl 1 rfl) ?_
    refine lv_iconst (v := 1) hx hb dL_law_346 (by decide) ?_
    refine lv_iadd hx hb dL_law_347 ?_
    refine lv_topi (fun t_7 et_7 => ?_)
    obtain rfl : t_7 = nI (3 * k + 1) := et_7.trans (nI_c _ 1)
    refine h_sld hx hb hXX hbl hbA hw (j := (3 * k + 1)) (by omega) (by omega) dL_law_348 ?_
    refine h_callV (n := 1) (ci := 10) (b := mo) (As := [.int (xs (3 * k + 1))]) (rest := []) ⟨hx, hb, hml, hown, hts⟩ hK hw (c_X10_place l D dT ah_3 H_4.size mo AR q g hm1 (xs (3 * k + 1))) ko_X10_place km_L_72 ki_X10_place ks_X10_place kn_X10 (by decide +kernel) rfl hm1.1 rfl hl.1 rfl (by simp [Value.category]) dL_law_349 (by rw [hR]; exact ⟨rfl, rfl, Nat.le_of_ble_eq_true rfl, Nat.le_of_ble_eq_true rfl, by show _ ≤ 601024; omega, by show _ ≤ 7293034; omega⟩) (fun r_8 ah_9 H_10 L_11 st_12 hp hw hst => ?_)
    rcases hp with ⟨m1, rfl, eah_9⟩ | ⟨m1, rfl, eah_9⟩
    · skip
      exfalso
      exact (x06.mp m1).elim hr1.1 (fun h9 => h9 hr1.2)
    · skip
      rw [← pl_w hI hr1.1 hr1.2] at hst
      have hm2 := moA_q hm1 eah_9
      have hFr2 : moFr ah_3 ah_9 mo AR := fr_up eah_9
      have ho2 := oc_keep hm1 hFr2 ho1
      have hst : st_12 = [.int (fdWhere pl (xs (3 * k + 1)))] := hst
      subst hst
      refine lv_istore (lv' := [(6, .int (fdWhere pl (xs (3 * k + 1)))), (5, .int 0), (4, .int (nI (3 * k))), (3, .ref out), (2, .ref mo), (1, .ref sj), (0, .ref b)]) hx hb dL_law_352 hl (by decide) rfl (fun ls hl => ?_)
      refine lv_aload_n hx hb dL_law_354 rfl (lv_at hl 4 rfl) ?_
      refine h_callV (n := 0) (ci := 10) (b := mo) (As := []) (rest := []) ⟨hx, hb, hml, hown, hts⟩ hK hw (c_X10_thrown l D dT ah_9 H_10.size mo AR (upd q 0 0) g hm2) ko_X10_thrown km_L_52 ki_X10_thrown ks_X10_thrown kn_X10 (by decide +kernel) rfl hm2.1 rfl hl.1 rfl (by simp [Value.category]) dL_law_355 (by rw [hR]; exact ⟨rfl, rfl, Nat.le_of_ble_eq_true rfl, Nat.le_of_ble_eq_true rfl, by show _ ≤ 601024; omega, by show _ ≤ 7293034; omega⟩) (fun r_13 ah_14 H_15 L_16 st_17 hp hw hst => ?_)
      obtain ⟨rfl, rfl⟩ := hp
      rw [show (upd q 0 0) 0 = 0 from upd_e] at hst
      have hst : st_17 = [.int 0] := hst
      subst hst
      refine lv_iload hx hb dL_law_358 (lv_at hl 1 rfl) ?_
      refine lv_icmp_eq (tgt := 365) hx hb dL_law_360 (by decide) (fun c_18 => ?_) (fun c_18 => ?_)
      · skip
        refine lv_iload hx hb dL_law_365 (lv_at hl 1 rfl) ?_
        refine lv_if_ne (tgt := 382) hx hb dL_law_367 (by decide) (fun c_19 => ?_) (fun c_19 => ?_)
        · exact absurd c_19 (by decide)
        · skip
          refine lv_aload_n hx hb dL_law_370 rfl (lv_at hl 3 rfl) ?_
          refine lv_iconst (v := 0) hx hb dL_law_371 (by decide) ?_
          refine h_lald hx hb hK hw ho2 0 (by decide) (by omega) (by omega) dL_law_372 ?_
          rw [show (vp_updL fL 0 (fdWhere pl (xs (3 * k + 1))).toInt64) 0 = (fdWhere pl (xs (3 * k + 1))).toInt64 from rfl]
          refine lv_iload hx hb dL_law_373 (lv_at hl 0 rfl) ?_
          refine lv_i2l (v := (fdWhere pl (xs (3 * k + 1))).toInt64) hx hb dL_law_375 rfl ?_
          refine W.lcmp hx hb dL_law_376 ?_
          refine lv_if_eq (tgt := 382) hx hb dL_law_377 (by decide) (fun c_20 => ?_) (fun c_20 => ?_)
          · skip
            have c_20 : (fdWhere pl (xs (3 * k + 1))).toInt64 = (fdWhere pl (xs (3 * k + 1))).toInt64 := lgc_eq.mp c_20
            refine lv_goto (tgt := 385) hx hb dL_law_382 (by decide) ?_
            exact kk ls ah_9 _ _ _ _ _ _ (lw_same hj1 hm1 hI ho1 hS hcnt (q2 := upd q 0 0) (fun i h1 h2 => upd_n (by omega)) eah_9) hw ((by cases jd <;> simp at hcb hsb ⊢ <;> omega)) ((by cases jd <;> simp at hcb hsb ⊢ <;> omega)) (lv_sub hl [2, 3, 4, 5, 6] rfl)
          · skip
            have c_20 : ¬ ((fdWhere pl (xs (3 * k + 1))).toInt64 = (fdWhere pl (xs (3 * k + 1))).toInt64) := (not_congr lgc_eq).mp c_20
            exfalso
            exact absurd rfl c_20
      · exact absurd c_18 (by decide)
  · skip
    have hP : ((xs (3 * k + 1)) < 0 ∨ ¬ (xs (3 * k + 1)) < 7) := hpx.2
    have hst : st_6 = [.int 1] := hst
    subst hst
    refine lv_istore (lv' := [(5, .int 1), (4, .int (nI (3 * k))), (3, .ref out), (2, .ref mo), (1, .ref sj), (0, .ref b)]) hx hb dL_law_340 hl (by decide) rfl (fun ls hl => ?_)
    refine lv_aload_n hx hb dL_law_342 rfl (lv_at hl 3 rfl) ?_
    refine lv_aload_n hx hb dL_law_343 rfl (lv_at hl 5 rfl) ?_
    refine lv_iload hx hb dL_law_344 (lv_at hl 1 rfl) ?_
    refine lv_iconst (v := 1) hx hb dL_law_346 (by decide) ?_
    refine lv_iadd hx hb dL_law_347 ?_
    refine lv_topi (fun t_21 et_21 => ?_)
    obtain rfl : t_21 = nI (3 * k + 1) := et_21.trans (nI_c _ 1)
    refine h_sld hx hb hXX hbl hbA hw (j := (3 * k + 1)) (by omega) (by omega) dL_law_348 ?_
    refine h_callV (n := 1) (ci := 10) (b := mo) (As := [.int (xs (3 * k + 1))]) (rest := []) ⟨hx, hb, hml, hown, hts⟩ hK hw (c_X10_place l D dT ah9 H_4.size mo AR q g hm (xs (3 * k + 1))) ko_X10_place km_L_72 ki_X10_place ks_X10_place kn_X10 (by decide +kernel) rfl hm.1 rfl hl.1 rfl (by simp [Value.category]) dL_law_349 (by rw [hR]; exact ⟨rfl, rfl, Nat.le_of_ble_eq_true rfl, Nat.le_of_ble_eq_true rfl, by show _ ≤ 601024; omega, by show _ ≤ 7293034; omega⟩) (fun r_22 ah_23 H_24 L_25 st_26 hp hw hst => ?_)
    rcases hp with ⟨m1, rfl, eah_23⟩ | ⟨m1, rfl, eah_23⟩
    · skip
      have hm2 := moA_q hm eah_23
      have hst : st_26 = [.int 0] := hst
      subst hst
      refine lv_istore (lv' := [(6, .int 0), (5, .int 1), (4, .int (nI (3 * k))), (3, .ref out), (2, .ref mo), (1, .ref sj), (0, .ref b)]) hx hb dL_law_352 hl (by decide) rfl (fun ls hl => ?_)
      refine lv_aload_n hx hb dL_law_354 rfl (lv_at hl 4 rfl) ?_
      refine h_callV (n := 0) (ci := 10) (b := mo) (As := []) (rest := []) ⟨hx, hb, hml, hown, hts⟩ hK hw (c_X10_thrown l D dT ah_23 H_24.size mo AR (upd q 0 1) g hm2) ko_X10_thrown km_L_52 ki_X10_thrown ks_X10_thrown kn_X10 (by decide +kernel) rfl hm2.1 rfl hl.1 rfl (by simp [Value.category]) dL_law_355 (by rw [hR]; exact ⟨rfl, rfl, Nat.le_of_ble_eq_true rfl, Nat.le_of_ble_eq_true rfl, by show _ ≤ 601024; omega, by show _ ≤ 7293034; omega⟩) (fun r_27 ah_28 H_29 L_30 st_31 hp hw hst => ?_)
      obtain ⟨rfl, rfl⟩ := hp
      rw [show (upd q 0 1) 0 = 1 from upd_e] at hst
      have hst : st_31 = [.int 1] := hst
      subst hst
      refine lv_iload hx hb dL_law_358 (lv_at hl 1 rfl) ?_
      refine lv_icmp_eq (tgt := 365) hx hb dL_law_360 (by decide) (fun c_32 => ?_) (fun c_32 => ?_)
      · skip
        refine lv_iload hx hb dL_law_365 (lv_at hl 1 rfl) ?_
        refine lv_if_ne (tgt := 382) hx hb dL_law_367 (by decide) (fun c_33 => ?_) (fun c_33 => ?_)
        · skip
          refine lv_goto (tgt := 385) hx hb dL_law_382 (by decide) ?_
          exact kk ls ah_23 _ _ _ _ _ _ (lw_same hj hm hI ho hS hcnt (q2 := upd q 0 1) (fun i h1 h2 => upd_n (by omega)) eah_23) hw ((by cases jd <;> simp at hcb hsb ⊢ <;> omega)) ((by cases jd <;> simp at hcb hsb ⊢ <;> omega)) (lv_sub hl [2, 3, 4, 5, 6] rfl)
        · exact absurd c_33 (by decide)
      · exact absurd c_32 (by decide)
    · skip
      exfalso
      exact m1 (x06.mpr hP)

set_option maxHeartbeats 4000000 in
set_option maxRecDepth 100000 in
theorem st_clear {p : Program} {l : Launch} {e : Env} {R : Room} {s : State} {m : MethodId} {args : Array Value} {below : List Frame} {meth : Method} {c : Code} {Q : State → Prop} {D : va_G} {dT : Nat → ClassId} {b L : Nat} {xs : Nat → Int32} (hlt : l.stackTraces = false) (hR : R = room_1) (ah : hA) (hC9 : lwC p s m meth c D dT args b L xs ah) (hL : L ≤ 1536) {k sj mo out cr sr : Nat} (hkL : 3 * k + 3 ≤ L) {ah9 : hA} {H9 : Heap} {L9 : List Loc} {ls : Array Slot} {cl9 sl9 : Nat} (hI : lwI dT ah9 sj mo out k cr sr) (hw : hW D ah s.heap ah9 H9 L9) (hcb : cl9 + cr ≤ 100 + 13 * k) (hsb : sl9 + sr ≤ 40000 + 5143 * k) (hl : lv_has ls 7 [(4, .int (nI (3 * k))), (3, .ref out), (2, .ref mo), (1, .ref sj), (0, .ref b)])
    (kk : ∀ (ls : Array Slot) (ah2 : hA) (H2 : Heap) (L2 : List Loc) (cl2 sl2 cr2 sr2 : Nat), lwI dT ah2 sj mo out (k + 1) cr2 sr2 → hW D ah s.heap ah2 H2 L2 → cl2 + cr2 ≤ 100 + 13 * (k + 1) → sl2 + sr2 ≤ 40000 + 5143 * (k + 1) → lv_has ls 7 [(4, .int (nI (3 * k))), (3, .ref out), (2, .ref mo), (1, .ref sj), (0, .ref b)] → W p l e R s m args below meth c H2 L2 cl2 sl2 Q (F0 m 385 ls [])) : W p l e R s m args below meth c H9 L9 cl9 sl9 Q (F0 m 80 ls []) := by
  obtain ⟨hx, hb, hml, hown, hts, hK, hX9, hY9, hXX, hbl, hbA⟩ := hC9
  obtain ⟨sh, fd, ins, pa, mt, RO, RA, cap, AR, ns, nc, np, nr, no, f, g, q, wh, pl, jd, FC, FP, FG, RC, PF, PC, RP, RN, OP, PA, fL, hj, hm, hI, ho, hS, hcnt, rfl, rfl⟩ := hI
  have hbb := jI_b hI
  have hN := hI.2.1
  have hMS := hI.1.2.1
  have hq := hOQ hI
  have hrw := rw_b hj
  refine lv_aload_n hx hb dL_law_80 rfl (lv_at hl 3 rfl) ?_
  refine h_callV (n := 0) (ci := 9) (b := sj) (As := []) (rest := []) ⟨hx, hb, hml, hown, hts⟩ hK hw (c_X9_clear l D dT ah9 H9.size sj sh fd ins pa mt RO RA cap ns nc np no nr f wh pl jd hj) ko_X9_clear km_L_42 ki_X9_clear ks_X9_clear kn_X9 (by decide +kernel) rfl hj.1 rfl hl.1 rfl (by simp [Value.category]) dL_law_81 (by rw [hR]; exact ⟨rfl, rfl, Nat.le_of_ble_eq_true rfl, Nat.le_of_ble_eq_true rfl, by show _ ≤ 601024; omega, by show _ ≤ 7293034; omega⟩) (fun r_1 ah_2 H_3 L_4 st_5 hp hw hst => ?_)
  obtain ⟨rfl, hj2, hkK⟩ := hp
  have hm1 := m_keep hj hm hS hkK
  have hst : st_5 = [.int (nI (2 * ns + 1 * nr))] := hst
  subst hst
  refine lv_aload_n hx hb dL_law_84 rfl (lv_at hl 2 rfl) ?_
  refine h_callV (n := 0) (ci := 10) (b := mo) (As := []) (rest := [.int (nI (2 * ns + 1 * nr))]) ⟨hx, hb, hml, hown, hts⟩ hK hw (c_X10_clear l D dT ah_2 H_3.size mo AR q g hm1 _ rfl ns _ np nr no hN) ko_X10_clear km_L_45 ki_X10_clear ks_X10_clear kn_X10 (by decide +kernel) rfl hm1.1 rfl hl.1 rfl (by simp [Value.category]) dL_law_85 (by rw [hR]; exact ⟨rfl, rfl, Nat.le_of_ble_eq_true rfl, Nat.le_of_ble_eq_true rfl, by show _ ≤ 601024; omega, by show _ ≤ 7293034; omega⟩) (fun r_6 ah_7 H_8 L_9 st_10 hp hw hst => ?_)
  rcases hp with ⟨q2, g2, rfl, hm2, hN2, hq0, k12, kr, hFr2⟩
  · skip
    have hj1 := hj2
    have ho1 := o_keep hj hkK ho
    have hI2 := jI_0 (f := f) (g := g2) (pl := fillF pl (-1) 7) hN2 (fun j h7 => if_pos h7) (fun j h7 => by rw [k12]; simp only [fillF, if_pos h7])
    have hst : st_10 = [.int (nI (2 * ns + nr)), .int (nI (2 * ns + 1 * nr))] := hst
    subst hst
    refine lv_icmp_eq (tgt := 385) hx hb dL_law_88 (by decide) (fun c_11 => ?_) (fun c_11 => ?_)
    · skip
      have c_11 : 2 * ns + 1 * nr = 2 * ns + nr := (nI_eqx (by rfl) (by rfl) (by omega) (by omega)).mp c_11
      exact kk ls ah_7 _ _ _ _ _ _ (⟨sh, fd, ins, pa, mt, RO, RA, cap, AR, 0, 0, 0, 0, 0, f, g2, q2, 0, (fillF pl (-1) 7), false, _, _, _, _, _, _, _, _, _, _, _, c_keep hj1 hm1 hS hFr2, hm2, hI2, oc_keep hm1 hFr2 ho1, hS, by omega, rfl, rfl⟩) hw (by cases jd <;> simp at hcb hsb ⊢ <;> omega) (by cases jd <;> simp at hcb hsb ⊢ <;> omega) (lv_sub hl [0, 1, 2, 3, 4] rfl)
    · skip
      have c_11 : ¬ (2 * ns + 1 * nr = 2 * ns + nr) := (not_congr (nI_eqx (by rfl) (by rfl) (by omega) (by omega))).mp c_11
      exfalso
      omega

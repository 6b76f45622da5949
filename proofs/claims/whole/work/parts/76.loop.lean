/-! The law's loop -/
theorem sw_7 {y : Int32} (h : ¬ (y.toInt < 0 ∨ 6 < y.toInt)) : ∃ j : Nat, j < 7 ∧ y.toInt = j := ⟨y.toInt.toNat, by omega, by omega⟩
theorem lp_3 {L k : Nat} (hL : L ≤ 1536) (hk : 3 * k ≤ L) (h : ¬ Int32.ofNat L - 3 < nI (3 * k)) : 3 * k + 3 ≤ L := by
  rw [i32_lt, Int32.toInt_sub, show (nI (3 * k)).toInt = ((3 * k : Nat) : Int) from nI_toInt (by omega), show (Int32.ofNat L).toInt = (L : Int) from nI_toInt (by omega), show (3 : Int32).toInt = 3 from rfl, Int.bmod_eq_of_le (by omega) (by omega)] at h
  omega
set_option maxHeartbeats 4000000 in
theorem lw_loop {p : Program} {l : Launch} {e : Env} {R : Room} {s : State} {m : MethodId} {args : Array Value} {below : List Frame} {meth : Method} {c : Code} {Q : State → Prop} {D : va_G} {dT : Nat → ClassId} {b L : Nat} {xs : Nat → Int32} (hlt : l.stackTraces = false) (hR : R = room_1) (ah : hA) (hC9 : lwC p s m meth c D dT args b L xs ah) (hL : L ≤ 1536) {sj mo out : Nat}
    (hend : ∀ (ls : Array Slot) (ah2 : hA) (H2 : Heap) (L2 : List Loc) (cl2 sl2 : Nat), hW D ah s.heap ah2 H2 L2 → cl2 ≤ 601024 → sl2 ≤ 7293034 → W p l e R s m args below meth c H2 L2 cl2 sl2 Q (F0 m 391 ls [])) :
    ∀ (n k : Nat), L < 3 * k + n → 3 * k ≤ L → ∀ (ah9 : hA) (H9 : Heap) (L9 : List Loc) (ls : Array Slot) (cl9 sl9 cr sr : Nat), lwI dT ah9 sj mo out k cr sr → hW D ah s.heap ah9 H9 L9 → cl9 + cr ≤ 100 + 13 * k → sl9 + sr ≤ 40000 + 5143 * k → lv_has ls 7 [(4, .int (nI (3 * k))), (3, .ref out), (2, .ref mo), (1, .ref sj), (0, .ref b)] → W p l e R s m args below meth c H9 L9 cl9 sl9 Q (F0 m 23 ls []) := by
  have hC8 := hC9
  obtain ⟨hx, hb, hml, hown, hts, hK, hX9, hY9, hXX, hbl, hbA⟩ := hC8
  intro n
  induction n with
  | zero => intro k h1 h2; omega
  | succ n ih =>
    intro k hn hk ah9 H9 L9 ls cl9 sl9 cr sr hI hw hcb hsb hl
    refine lv_iload hx hb dL_law_23 (lv_at hl 0 rfl) ?_
    refine lv_aload_n hx hb dL_law_25 rfl (lv_at hl 4 rfl) ?_
    refine va_slen hx hb hXX hbl hbA hw.2.1 dL_law_26 ?_
    refine lv_iconst (v := 3) hx hb dL_law_27 (by decide) ?_
    refine lv_isub hx hb dL_law_28 ?_
    refine lv_icmp_gt (tgt := 391) hx hb dL_law_29 (by decide) (fun c1 => ?_) (fun c1 => ?_)
    · exact hend ls ah9 H9 L9 cl9 sl9 hw (by omega) (by omega)
    · have h3 : 3 * k + 3 ≤ L := lp_3 hL hk c1
      have kk : ∀ (ls : Array Slot) (ah2 : hA) (H2 : Heap) (L2 : List Loc) (cl2 sl2 cr2 sr2 : Nat), lwI dT ah2 sj mo out (k + 1) cr2 sr2 → hW D ah s.heap ah2 H2 L2 → cl2 + cr2 ≤ 100 + 13 * (k + 1) → sl2 + sr2 ≤ 40000 + 5143 * (k + 1) → lv_has ls 7 [(4, .int (nI (3 * k))), (3, .ref out), (2, .ref mo), (1, .ref sj), (0, .ref b)] → W p l e R s m args below meth c H2 L2 cl2 sl2 Q (F0 m 385 ls []) := by
        intro ls ah2 H2 L2 cl2 sl2 cr2 sr2 hI hw hcb hsb hl
        refine lv_iinc (v := nI (3 * (k + 1))) (lv' := [(4, .int (nI (3 * (k + 1)))), (3, .ref out), (2, .ref mo), (1, .ref sj), (0, .ref b)]) hx hb dL_law_385 hl (k := 0) rfl (nI_c (3 * k) 3) (by decide) rfl (fun ls hl => ?_)
        refine lv_goto (tgt := 23) hx hb dL_law_388 (by decide) ?_
        exact ih (k + 1) (by omega) (by omega) ah2 H2 L2 ls cl2 sl2 cr2 sr2 hI hw hcb hsb hl
      refine lv_aload_n hx hb dL_law_32 rfl (lv_at hl 4 rfl) ?_
      refine lv_iload hx hb dL_law_33 (lv_at hl 0 rfl) ?_
      refine h_sld hx hb hXX hbl hbA hw (by omega) (by omega) dL_law_35 ?_
      refine lv_bipush (v := 7) hx hb dL_law_36 (by decide) ?_
      refine lv_iand hx hb dL_law_38 ?_
      generalize xs (3 * k) &&& 7 = y
      by_cases hy : y.toInt < 0 ∨ 6 < y.toInt
      · refine lv_tableOut (tgt := 385) hx hb dL_law_39 hy (by decide) ?_
        refine kk ls ah9 H9 L9 cl9 sl9 cr sr ?_ hw (by omega) (by omega) hl
        obtain ⟨sh, fd, ins, pa, mt, RO, RA, cap, AR, ns, nc, np, nr, no, f, g, q, wh, pl, jd, FC, FP, FG, RC, PF, PC, RP, RN, OP, PA, fL, a1, a2, a3, a4, a5, a6, a7, a8⟩ := hI
        exact ⟨sh, fd, ins, pa, mt, RO, RA, cap, AR, ns, nc, np, nr, no, f, g, q, wh, pl, jd, FC, FP, FG, RC, PF, PC, RP, RN, OP, PA, fL, a1, a2, a3, a4, a5, by omega, a7, a8⟩
      · obtain ⟨j, hj, hyj⟩ := sw_7 hy
        have go : ∀ {off : Int} {tgt : Nat}, #[41, 54, 110, 134, 202, 246, 290][j]? = some off → (39 : Int) + off = tgt → W p l e R s m args below meth c H9 L9 cl9 sl9 Q (F0 m tgt ls []) → W p l e R s m args below meth c H9 L9 cl9 sl9 Q (F0 m 39 ls [.int y]) := fun h1 h2 h3 => lv_tableIn hx hb dL_law_39 (fun h => hy (Or.inl h)) (fun h => hy (Or.inr h)) (by rw [hyj]; simpa using h1) h2 h3
        rcases (by omega : j = 0 ∨ j = 1 ∨ j = 2 ∨ j = 3 ∨ j = 4 ∨ j = 5 ∨ j = 6) with rfl | rfl | rfl | rfl | rfl | rfl | rfl
        · exact go (tgt := 80) rfl (by decide) (st_clear hlt hR ah hC9 hL h3 hI hw hcb hsb hl kk)
        · exact go (tgt := 93) rfl (by decide) (st_open hlt hR ah hC9 hL h3 hI hw hcb hsb hl kk)
        · exact go (tgt := 149) rfl (by decide) (st_ring hlt hR ah hC9 hL h3 hI hw hcb hsb hl kk)
        · exact go (tgt := 173) rfl (by decide) (st_point hlt hR ah hC9 hL h3 hI hw hcb hsb hl kk)
        · exact go (tgt := 241) rfl (by decide) (st_close hlt hR ah hC9 hL h3 hI hw hcb hsb hl kk)
        · exact go (tgt := 285) rfl (by decide) (st_judge hlt hR ah hC9 hL h3 hI hw hcb hsb hl kk)
        · exact go (tgt := 329) rfl (by decide) (st_place hlt hR ah hC9 hL h3 hI hw hcb hsb hl kk)

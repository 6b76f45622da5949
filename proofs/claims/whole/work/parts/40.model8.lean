/-! ShapeJudgeModel: open, point, judge -/
def mCan (KD : Nat → Int32) (PC RC : Nat → Nat) (s : Nat) : Bool := if KD s = 1 then (if PC s = 0 then true else (if KD s = 2 then true else (if KD s = 3 then (if RC s ≤ 0 then false else true) else false))) else (if KD s = 2 then true else (if KD s = 3 then (if RC s ≤ 0 then false else true) else false))
theorem mCan_e {KD : Nat → Int32} {PC RC : Nat → Nat} {s : Nat} : (if KD s = 1 then (if PC s = 0 then (1 : Int32) else (if KD s = 2 then 1 else (if KD s = 3 then (if RC s ≤ 0 then 0 else 1) else 0))) else (if KD s = 2 then 1 else (if KD s = 3 then (if RC s ≤ 0 then 0 else 1) else 0))) = bI (mCan KD PC RC s) := by
  unfold mCan; repeat' split
  all_goals rfl
theorem mCan_3 {KD : Nat → Int32} {PC RC : Nat → Nat} {s : Nat} (h : ¬ mCan KD PC RC s = false) (h3 : KD s = 3) : 0 < RC s := by
  apply Classical.byContradiction
  intro h9
  apply h
  unfold mCan; rw [if_neg (by rw [h3]; decide), if_neg (by rw [h3]; decide), if_pos h3, if_pos (by omega)]
def pcN (WH : Nat → Int32) (tp : Int32) (k : Nat) : Nat := if WH k = tp then (if tp < 0 then 0 else 1) else 0
theorem pcN_e {WH : Nat → Int32} {tp : Int32} {k : Nat} : (if WH k = tp then (if tp < 0 then (0 : Int32) else 1) else 0) = nI (pcN WH tp k) := by
  unfold pcN; repeat' split
  all_goals rfl
/-- how many of the first k shapes are parts of the same one -/
def cntP (WH : Nat → Int32) (tp : Int32) : Nat → Nat
  | 0 => 0
  | k + 1 => cntP WH tp k + pcN WH tp k
theorem mTake_no {KD : Nat → Int32} {OP : Nat → Nat} {ns no : Nat} {x : Int32} (h : ¬ mTake KD OP ns no x = false) : no < 50 := by
  apply Classical.byContradiction
  intro h9
  apply h
  unfold mTake; rw [if_neg (show ¬ no = 0 by omega), if_pos (show 50 ≤ no by omega)]
theorem moK_0 {dT : Nat → ClassId} {ah ah1 : hA} {mo : Nat} {AR : Nat → Nat} {q q2 : Nat → Int32} {g : Nat → Nat → Int32} (h : moA dT ah mo AR q g) (e : ah1 = hup ah mo (.inr (10, moF q2 AR))) : moK dT ah ah1 mo AR q2 g q2 g := ⟨moA_q h e, fun _ _ => rfl, fun _ _ => rfl, fun a x ha h1 _ _ => by rw [e, hup_n h1]; exact ha⟩
def jgS (X Y : Nat → Int32) (RP RN : Nat → Nat) (ns : Nat) (FG RC PF PC : Nat → Nat) (KD WH PA pl : Nat → Int32) (s : Nat) : fT :=
  if KD s = 2 then (if PC s ≤ 0 then none else if mFew X Y (PF s) (PC s) 2 = false then none else some (2, p1 (upd pl 0 (nI s)) (-1) (-1) (-1))) else
  if KD s = 3 then poM X Y RP RN (FG s) (RC s) (nI s) 0 pl else if KD s = 6 then plO X Y RP RN ns FG RC WH PA pl s else none
section
variable {X Y : Nat → Int32} {RP RN : Nat → Nat} {ns : Nat} {FG RC PF PC : Nat → Nat} {KD WH PA pl : Nat → Int32} {s : Nat}
theorem jgS_2a (h : KD s = 2) (h1 : PC s ≤ 0) : jgS X Y RP RN ns FG RC PF PC KD WH PA pl s = none := by unfold jgS; rw [if_pos h, if_pos h1]
theorem jgS_2b (h : KD s = 2) (h1 : ¬ PC s ≤ 0) (h2 : mFew X Y (PF s) (PC s) 2 = false) : jgS X Y RP RN ns FG RC PF PC KD WH PA pl s = none := by unfold jgS; rw [if_pos h, if_neg h1, if_pos h2]
theorem jgS_2c (h : KD s = 2) (h1 : ¬ PC s ≤ 0) (h2 : ¬ mFew X Y (PF s) (PC s) 2 = false) : jgS X Y RP RN ns FG RC PF PC KD WH PA pl s = some (2, p1 (upd pl 0 (nI s)) (-1) (-1) (-1)) := by unfold jgS; rw [if_pos h, if_neg h1, if_neg h2]
theorem jgS_3 (h : KD s = 3) : jgS X Y RP RN ns FG RC PF PC KD WH PA pl s = poM X Y RP RN (FG s) (RC s) (nI s) 0 pl := by unfold jgS; rw [if_neg (by rw [h]; decide), if_pos h]
theorem jgS_6 (h : KD s = 6) : jgS X Y RP RN ns FG RC PF PC KD WH PA pl s = plO X Y RP RN ns FG RC WH PA pl s := by unfold jgS; rw [if_neg (by rw [h]; decide), if_neg (by rw [h]; decide), if_pos h]
theorem jgS_0 (h : ¬ KD s = 2) (h1 : ¬ KD s = 3) (h2 : ¬ KD s = 6) : jgS X Y RP RN ns FG RC PF PC KD WH PA pl s = none := by unfold jgS; rw [if_neg h, if_neg h1, if_neg h2]
end
set_option maxHeartbeats 4000000 in
set_option maxRecDepth 100000 in
theorem c_X10_point (l : Launch) (D : va_G) (dT : Nat → ClassId) (ah : hA) (sz : Nat) (mo : Nat) (AR : Nat → Nat) (q : Nat → Int32) (g : Nat → Nat → Int32) (hm : moA dT ah mo AR q g) (ns nu np nr no : Nat) (hN : moN q ns nu np nr no) (FG RC PF PC : Nat → Nat) (KD WH PA : Nat → Int32) (hS : moS ns np nr g FG RC PF PC KD WH PA) (OP : Nat → Nat) (hOQ : ∀ j, j < no → g 11 j = nI (OP j) ∧ OP j < ns) (x y : Int32) : hMet l yX10_point cX10_point 6 (some .int) ({ frames := 1, cells := 0, slots := 0, locals := 22 }) D dT [.ref mo, .int x, .int y] ah sz (fun r ah2 => ((wiB x (-1000000000) 1000000000 = false ∨ wiB y (-1000000000) 1000000000 = false) ∧ r = some (.int 0) ∧ ah2 = hup ah mo (.inr (10, moF (upd q 0 1) AR))) ∨ ((¬ wiB x (-1000000000) 1000000000 = false ∧ ¬ wiB y (-1000000000) 1000000000 = false) ∧ (no = 0 ∨ mCan KD PC RC (OP (no - 1)) = false) ∧ r = some (.int 0) ∧ ah2 = hup ah mo (.inr (10, moF (upd q 0 2) AR))) ∨ ((¬ wiB x (-1000000000) 1000000000 = false ∧ ¬ wiB y (-1000000000) 1000000000 = false) ∧ (0 < no ∧ ¬ mCan KD PC RC (OP (no - 1)) = false) ∧ np = 4096 ∧ r = some (.int 0) ∧ ah2 = hup ah mo (.inr (10, moF (upd q 0 3) AR))) ∨ ((¬ wiB x (-1000000000) 1000000000 = false ∧ ¬ wiB y (-1000000000) 1000000000 = false) ∧ (0 < no ∧ ¬ mCan KD PC RC (OP (no - 1)) = false) ∧ np < 4096 ∧ r = some (.int (nI (np + 1))) ∧ ∃ q2 g2, moA dT ah2 mo AR q2 g2 ∧ moN q2 ns nu (np + 1) nr no ∧ q2 0 = 0 ∧ g2 9 = upd (g 9) np x ∧ g2 10 = upd (g 10) np y ∧ (KD (OP (no - 1)) = 3 ∧ g2 8 = upd (g 8) (nr - 1) (g 8 (nr - 1) + 1) ∧ g2 4 = g 4 ∨ ¬ KD (OP (no - 1)) = 3 ∧ g2 4 = upd (g 4) (OP (no - 1)) (nI (PC (OP (no - 1)) + 1)) ∧ g2 8 = g 8) ∧ (∀ k, k < 14 → ¬ k = 4 → ¬ k = 8 → ¬ k = 9 → ¬ k = 10 → g2 k = g k) ∧ moFr ah ah2 mo AR)) 0 0 := by
  refine h_met (by decide) (Nat.le_of_ble_eq_true rfl) ?_
  intro p e s m below meth c ls R Q args hav hR hQ hB hl hsz hw
  obtain ⟨hx, hb, hml, hr, hts, hown, hlk, hin, hK⟩ := hB
  have hown : s.vm.findClass RX10 = some m.cls := hown
  have hl : lv_has ls 6 [(0, .ref mo), (1, .int x), (2, .int y)] := hl
  have hns9 := hS.1
  obtain ⟨hn1, hn2, hn3, hn4, hn5⟩ := hN.2.2.2.2.2
  have hO1 : 0 < no → OP (no - 1) < ns := fun h9 => (hOQ _ (by omega)).2
  refine lv_aload_n hx hb dX10_point_0 rfl (lv_at hl 0 rfl) ?_
  refine lv_iconst (v := 0) hx hb dX10_point_1 (by decide) ?_
  refine h_put (ci := 10) (v := .int 0) (C := RX10) (T := TX10) (N := 26) hx hb hts kl_X10 tyX10 tyX10_ok nmX10 hown hK hw hm.1 rfl 0 (by decide) (hts _ kf_X10_52) rfl rfl (tyX10_ok 0 (by decide)) rfl rfl (Nat.le_of_ble_eq_true rfl) dX10_point_2 (fun H_1 L_2 hw => ?_)
  obtain ⟨ah_3, eah_3⟩ : ∃ z9 : hA, z9 = hup ah mo (.inr (10, moF (upd q 0 0) AR)) := ⟨_, rfl⟩
  have hw : hW D ah s.heap ah_3 H_1 L_2 := by rw [eah_3, ← mf_0]; exact hw
  have hm_4 : moA dT ah_3 mo AR (upd q 0 0) g := moA_q hm eah_3
  refine lv_iload_n hx hb dX10_point_5 rfl (lv_at hl 1 rfl) ?_
  refine lv_ldc (v := (-1000000000)) hx hb hown (hts _ kk_X10_90) dX10_point_6 ?_
  refine lv_ldc (v := 1000000000) hx hb hown (hts _ kk_X10_91) dX10_point_8 ?_
  refine h_callS (n := 3) (As := [.int x, .int (-1000000000), .int 1000000000]) (rest := []) ⟨hx, hb, hml, hown, hts⟩ hK hw (c_X10_within l D dT ah_3 H_1.size x (-1000000000) 1000000000) ko_X10_within km_X10_78 kt_X10_within kn_X10 (by decide +kernel) rfl hl.1 rfl (by simp [Value.category]) dX10_point_10 (by rw [hR]; exact ⟨rfl, rfl, Nat.le_of_ble_eq_true rfl, Nat.le_of_ble_eq_true rfl, by simp, by simp⟩) (fun r_5 ah_6 H_7 L_8 st_9 hp hw hst => ?_)
  obtain ⟨rfl, rfl⟩ := hp
  have hst : st_9 = [.int (bI (wiB x (-1000000000) 1000000000))] := hst
  subst hst
  refine lv_if_eq (tgt := 27) hx hb dX10_point_13 (by decide) (fun c_10 => ?_) (fun c_10 => ?_)
  · skip
    have c_10 : wiB x (-1000000000) 1000000000 = false := bI_0.mp c_10
    refine lv_aload_n hx hb dX10_point_27 rfl (lv_at hl 0 rfl) ?_
    refine lv_iconst (v := 1) hx hb dX10_point_28 (by decide) ?_
    refine h_callV (n := 1) (ci := 10) (b := mo) (As := [.int 1]) (rest := []) ⟨hx, hb, hml, hown, hts⟩ hK hw (c_X10_fail l D dT ah_3 H_7.size mo AR (upd q 0 0) g hm_4 1) ko_X10_fail km_X10_82 ki_X10_fail ks_X10_fail kn_X10 (by decide +kernel) rfl hm_4.1 rfl hl.1 rfl (by simp [Value.category]) dX10_point_29 (by rw [hR]; exact ⟨rfl, rfl, Nat.le_of_ble_eq_true rfl, Nat.le_of_ble_eq_true rfl, by simp, by simp⟩) (fun r_11 ah_12 H_13 L_14 st_15 hp hw hst => ?_)
    obtain ⟨rfl, eah_12⟩ := hp
    rw [show (upd (upd q 0 0) 0 1) = (upd q 0 1) from upd_s] at eah_12
    have hm_16 : moA dT ah_12 mo AR (upd q 0 1) g := moA_q hm_4 eah_12
    have hst : st_15 = [.int 0] := hst
    subst hst
    rw [hQ]
    exact h_iret hx hb hr hlk hsz hw (by simp) (by simp) dX10_point_32 (Or.inl ⟨Or.inl c_10, rfl, (by subst_vars; simp only [hup_hup, upd_s])⟩)
  · skip
    have c_10 : ¬ (wiB x (-1000000000) 1000000000 = false) := (not_congr bI_0).mp c_10
    refine lv_iload_n hx hb dX10_point_16 rfl (lv_at hl 2 rfl) ?_
    refine lv_ldc (v := (-1000000000)) hx hb hown (hts _ kk_X10_90) dX10_point_17 ?_
    refine lv_ldc (v := 1000000000) hx hb hown (hts _ kk_X10_91) dX10_point_19 ?_
    refine h_callS (n := 3) (As := [.int y, .int (-1000000000), .int 1000000000]) (rest := []) ⟨hx, hb, hml, hown, hts⟩ hK hw (c_X10_within l D dT ah_3 H_7.size y (-1000000000) 1000000000) ko_X10_within km_X10_78 kt_X10_within kn_X10 (by decide +kernel) rfl hl.1 rfl (by simp [Value.category]) dX10_point_21 (by rw [hR]; exact ⟨rfl, rfl, Nat.le_of_ble_eq_true rfl, Nat.le_of_ble_eq_true rfl, by simp, by simp⟩) (fun r_17 ah_18 H_19 L_20 st_21 hp hw hst => ?_)
    obtain ⟨rfl, rfl⟩ := hp
    have hst : st_21 = [.int (bI (wiB y (-1000000000) 1000000000))] := hst
    subst hst
    refine lv_if_ne (tgt := 33) hx hb dX10_point_24 (by decide) (fun c_22 => ?_) (fun c_22 => ?_)
    · skip
      have c_22 : ¬ (wiB y (-1000000000) 1000000000 = false) := (not_congr bI_0).mp c_22
      refine lv_aload_n hx hb dX10_point_33 rfl (lv_at hl 0 rfl) ?_
      refine h_callV (n := 0) (ci := 10) (b := mo) (As := []) (rest := []) ⟨hx, hb, hml, hown, hts⟩ hK hw (c_X10_top l D dT ah_3 H_19.size mo AR (upd q 0 0) g hm_4 OP no ⟨((show (upd q 0 0) 5 = q 5 from (upd_n (by decide))).trans hN.2.2.2.2.1), hN.2.2.2.2.2.2.2.2.1, fun j hj => (hOQ j hj).1⟩) ko_X10_top km_X10_74 ki_X10_top ks_X10_top kn_X10 (by decide +kernel) rfl hm_4.1 rfl hl.1 rfl (by simp [Value.category]) dX10_point_34 (by rw [hR]; exact ⟨rfl, rfl, Nat.le_of_ble_eq_true rfl, Nat.le_of_ble_eq_true rfl, by simp, by simp⟩) (fun r_23 ah_24 H_25 L_26 st_27 hp hw hst => ?_)
      obtain ⟨rfl, rfl⟩ := hp
      have hst : st_27 = [.int (topI OP no)] := hst
      subst hst
      refine lv_istore_n (lv' := [(3, .int (topI OP no)), (0, .ref mo), (1, .int x), (2, .int y)]) hx hb dX10_point_37 rfl hl (by decide) rfl (fun ls hl => ?_)
      rcases Nat.eq_zero_or_pos no with hno0 | hno0
      · skip
        subst hno0
        have hl : lv_has ls 6 [(3, .int (-1)), (0, .ref mo), (1, .int x), (2, .int y)] := hl
        refine lv_iload_n hx hb dX10_point_38 rfl (lv_at hl 0 rfl) ?_
        refine lv_if_ge (tgt := 46) hx hb dX10_point_39 (by decide) (fun c_28 => ?_) (fun c_28 => ?_)
        · exact absurd c_28 (by decide)
        · skip
          refine lv_iconst (v := 0) hx hb dX10_point_42 (by decide) ?_
          refine lv_goto (tgt := 52) hx hb dX10_point_43 (by decide) ?_
          refine lv_istore (lv' := [(4, .int 0), (3, .int (-1)), (0, .ref mo), (1, .int x), (2, .int y)]) hx hb dX10_point_52 hl (by decide) rfl (fun ls hl => ?_)
          refine lv_iload hx hb dX10_point_54 (lv_at hl 0 rfl) ?_
          refine lv_iconst (v := 1) hx hb dX10_point_56 (by decide) ?_
          refine lv_icmp_ne (tgt := 69) hx hb dX10_point_57 (by decide) (fun c_29 => ?_) (fun c_29 => ?_)
          · skip
            refine lv_iload hx hb dX10_point_69 (lv_at hl 0 rfl) ?_
            refine lv_iconst (v := 2) hx hb dX10_point_71 (by decide) ?_
            refine lv_icmp_eq (tgt := 90) hx hb dX10_point_72 (by decide) (fun c_30 => ?_) (fun c_30 => ?_)
            · exact absurd c_30 (by decide)
            · skip
              refine lv_iload hx hb dX10_point_75 (lv_at hl 0 rfl) ?_
              refine lv_iconst (v := 3) hx hb dX10_point_77 (by decide) ?_
              refine lv_icmp_ne (tgt := 94) hx hb dX10_point_78 (by decide) (fun c_31 => ?_) (fun c_31 => ?_)
              · skip
                refine lv_iconst (v := 0) hx hb dX10_point_94 (by decide) ?_
                refine lv_istore (lv' := [(5, .int 0), (4, .int 0), (3, .int (-1)), (0, .ref mo), (1, .int x), (2, .int y)]) hx hb dX10_point_95 hl (by decide) rfl (fun ls hl => ?_)
                refine lv_iload hx hb dX10_point_97 (lv_at hl 0 rfl) ?_
                refine lv_if_ne (tgt := 108) hx hb dX10_point_99 (by decide) (fun c_32 => ?_) (fun c_32 => ?_)
                · exact absurd c_32 (by decide)
                · skip
                  refine lv_aload_n hx hb dX10_point_102 rfl (lv_at hl 3 rfl) ?_
                  refine lv_iconst (v := 2) hx hb dX10_point_103 (by decide) ?_
                  refine h_callV (n := 1) (ci := 10) (b := mo) (As := [.int 2]) (rest := []) ⟨hx, hb, hml, hown, hts⟩ hK hw (c_X10_fail l D dT ah_3 H_25.size mo AR (upd q 0 0) g hm_4 2) ko_X10_fail km_X10_82 ki_X10_fail ks_X10_fail kn_X10 (by decide +kernel) rfl hm_4.1 rfl hl.1 rfl (by simp [Value.category]) dX10_point_104 (by rw [hR]; exact ⟨rfl, rfl, Nat.le_of_ble_eq_true rfl, Nat.le_of_ble_eq_true rfl, by simp, by simp⟩) (fun r_33 ah_34 H_35 L_36 st_37 hp hw hst => ?_)
                  obtain ⟨rfl, eah_34⟩ := hp
                  rw [show (upd (upd q 0 0) 0 2) = (upd q 0 2) from upd_s] at eah_34
                  have hm_38 : moA dT ah_34 mo AR (upd q 0 2) g := moA_q hm_4 eah_34
                  have hst : st_37 = [.int 0] := hst
                  subst hst
                  rw [hQ]
                  exact h_iret hx hb hr hlk hsz hw (by simp) (by simp) dX10_point_107 (Or.inr (Or.inl ⟨⟨c_10, c_22⟩, Or.inl rfl, rfl, (by subst_vars; simp only [hup_hup, upd_s])⟩))
              · exact absurd c_31 (by decide)
          · exact absurd c_29 (by decide)
      · skip
        rw [topI_p hno0] at hl
        have hO1 := hO1 hno0
        have hFR := (hS.2 (OP (no - 1)) hO1).2.2.2.2.2.2.2.2
        have hPP := (hS.2 (OP (no - 1)) hO1).2.2.2.2.2.2.2.1
        refine lv_iload_n hx hb dX10_point_38 rfl (lv_at hl 0 rfl) ?_
        refine lv_if_ge (tgt := 46) hx hb dX10_point_39 (by decide) (fun c_39 => ?_) (fun c_39 => ?_)
        · skip
          have c_39 : 0 ≤ OP (no - 1) := (nI_lex (by decide) (by rfl) (by omega) (by omega)).mp c_39
          refine lv_aload_n hx hb dX10_point_46 rfl (lv_at hl 1 rfl) ?_
          refine h_get (ci := 10) (v := .ref (AR 0)) (C := RX10) (T := TX10) (N := 26) hx hb hts kl_X10 hown hK hw hm_4.1 rfl 5 (by decide) (hts _ kf_X10_7) rfl rfl dX10_point_47 ?_
          refine lv_iload_n hx hb dX10_point_50 rfl (lv_at hl 0 rfl) ?_
          refine h_iald hx hb hK hw (moA_a (n := 2048) (f := g 0) hm_4 0 (by decide) rfl rfl) (OP (no - 1)) rfl (by omega) (by omega) dX10_point_51 ?_
          rw [show (g 0) (OP (no - 1)) = KD (OP (no - 1)) from (hS.2 _ (by omega)).1]
          refine lv_istore (lv' := [(4, .int (KD (OP (no - 1)))), (3, .int (nI (OP (no - 1)))), (0, .ref mo), (1, .int x), (2, .int y)]) hx hb dX10_point_52 hl (by decide) rfl (fun ls hl => ?_)
          refine lv_iload hx hb dX10_point_54 (lv_at hl 0 rfl) ?_
          refine lv_iconst (v := 1) hx hb dX10_point_56 (by decide) ?_
          have J_49 : ∀ (v_48 : Int32) (ls : Array Slot), lv_has ls 6 [(4, .int (KD (OP (no - 1)))), (3, .int (nI (OP (no - 1)))), (0, .ref mo), (1, .int x), (2, .int y)] → v_48 = (if KD (OP (no - 1)) = 1 then (if PC (OP (no - 1)) = 0 then 1 else (if KD (OP (no - 1)) = 2 then 1 else (if KD (OP (no - 1)) = 3 then (if RC (OP (no - 1)) ≤ 0 then 0 else 1) else 0))) else (if KD (OP (no - 1)) = 2 then 1 else (if KD (OP (no - 1)) = 3 then (if RC (OP (no - 1)) ≤ 0 then 0 else 1) else 0))) → W p l e R s m args below meth c H_25 L_26 (0 + 0 + 0 + 0) (0 + 0 + 0 + 0) Q (F0 m 95 ls [.int v_48]) := by
            intro v_48 ls hl ev_48
            have hv9 : v_48 = bI (mCan KD PC RC (OP (no - 1))) := ev_48.trans mCan_e
            subst hv9
            refine lv_istore (lv' := [(5, .int (bI (mCan KD PC RC (OP (no - 1))))), (4, .int (KD (OP (no - 1)))), (3, .int (nI (OP (no - 1)))), (0, .ref mo), (1, .int x), (2, .int y)]) hx hb dX10_point_95 hl (by decide) rfl (fun ls hl => ?_)
            refine lv_iload hx hb dX10_point_97 (lv_at hl 0 rfl) ?_
            refine lv_if_ne (tgt := 108) hx hb dX10_point_99 (by decide) (fun c_50 => ?_) (fun c_50 => ?_)
            · skip
              have c_50 : ¬ (mCan KD PC RC (OP (no - 1)) = false) := (not_congr bI_0).mp c_50
              refine lv_aload_n hx hb dX10_point_108 rfl (lv_at hl 3 rfl) ?_
              refine h_get (ci := 10) (v := .int (q 3)) (C := RX10) (T := TX10) (N := 26) hx hb hts kl_X10 hown hK hw hm_4.1 rfl 3 (by decide) (hts _ kf_X10_62) rfl (congrArg (fun z => some (Value.int z)) (show (upd q 0 0) 3 = q 3 from (upd_n (by decide)))) dX10_point_109 ?_
              rw [show q 3 = nI np from hN.2.2.1]
              refine lv_sipush (v := 4096) hx hb dX10_point_112 (by decide) ?_
              refine lv_icmp_ne (tgt := 124) hx hb dX10_point_115 (by decide) (fun c_51 => ?_) (fun c_51 => ?_)
              · skip
                have c_51 : ¬ (np = 4096) := (not_congr (nI_eqx (by rfl) (by decide) (by omega) (by omega))).mp c_51
                refine lv_aload_n hx hb dX10_point_124 rfl (lv_at hl 3 rfl) ?_
                refine h_get (ci := 10) (v := .ref (AR 9)) (C := RX10) (T := TX10) (N := 26) hx hb hts kl_X10 hown hK hw hm_4.1 rfl 14 (by decide) (hts _ kf_X10_37) rfl rfl dX10_point_125 ?_
                refine lv_aload_n hx hb dX10_point_128 rfl (lv_at hl 3 rfl) ?_
                refine h_get (ci := 10) (v := .int (q 3)) (C := RX10) (T := TX10) (N := 26) hx hb hts kl_X10 hown hK hw hm_4.1 rfl 3 (by decide) (hts _ kf_X10_62) rfl (congrArg (fun z => some (Value.int z)) (show (upd q 0 0) 3 = q 3 from (upd_n (by decide)))) dX10_point_129 ?_
                rw [show q 3 = nI np from hN.2.2.1]
                refine lv_iload_n hx hb dX10_point_132 rfl (lv_at hl 4 rfl) ?_
                refine h_iast hx hb hK hw (moA_a (n := 4096) (f := g 9) hm_4 9 (by decide) rfl rfl) np rfl (by omega) (by omega) dX10_point_133 (fun H_52 L_53 hw => ?_)
                obtain ⟨ah_54, eah_54⟩ : ∃ z9 : hA, z9 = hup ah_3 (AR 9) (.inl (dT 0, 4096, .inl (upd (g 9) np x))) := ⟨_, rfl⟩
                have hw : hW D ah s.heap ah_54 H_52 L_53 := by rw [eah_54]; exact hw
                have hm_55 : moA dT ah_54 mo AR (upd q 0 0) (va_up g 9 (upd (g 9) np x)) := moA_g hm_4 9 (by decide) eah_54
                refine lv_aload_n hx hb dX10_point_134 rfl (lv_at hl 3 rfl) ?_
                refine h_get (ci := 10) (v := .ref (AR 10)) (C := RX10) (T := TX10) (N := 26) hx hb hts kl_X10 hown hK hw hm_55.1 rfl 15 (by decide) (hts _ kf_X10_40) rfl rfl dX10_point_135 ?_
                refine lv_aload_n hx hb dX10_point_138 rfl (lv_at hl 3 rfl) ?_
                refine h_get (ci := 10) (v := .int (q 3)) (C := RX10) (T := TX10) (N := 26) hx hb hts kl_X10 hown hK hw hm_55.1 rfl 3 (by decide) (hts _ kf_X10_62) rfl (congrArg (fun z => some (Value.int z)) (show (upd q 0 0) 3 = q 3 from (upd_n (by decide)))) dX10_point_139 ?_
                rw [show q 3 = nI np from hN.2.2.1]
                refine lv_iload_n hx hb dX10_point_142 rfl (lv_at hl 5 rfl) ?_
                refine h_iast hx hb hK hw (moA_a (n := 4096) (f := g 10) hm_55 10 (by decide) rfl rfl) np rfl (by omega) (by omega) dX10_point_143 (fun H_56 L_57 hw => ?_)
                obtain ⟨ah_58, eah_58⟩ : ∃ z9 : hA, z9 = hup ah_54 (AR 10) (.inl (dT 0, 4096, .inl (upd (g 10) np y))) := ⟨_, rfl⟩
                have hw : hW D ah s.heap ah_58 H_56 L_57 := by rw [eah_58]; exact hw
                have hm_59 : moA dT ah_58 mo AR (upd q 0 0) (va_up (va_up g 9 (upd (g 9) np x)) 10 (upd (g 10) np y)) := moA_g hm_55 10 (by decide) eah_58
                refine lv_aload_n hx hb dX10_point_144 rfl (lv_at hl 3 rfl) ?_
                refine lv_dup hx hb dX10_point_145 rfl ?_
                refine h_get (ci := 10) (v := .int (q 3)) (C := RX10) (T := TX10) (N := 26) hx hb hts kl_X10 hown hK hw hm_59.1 rfl 3 (by decide) (hts _ kf_X10_62) rfl (congrArg (fun z => some (Value.int z)) (show (upd q 0 0) 3 = q 3 from (upd_n (by decide)))) dX10_point_146 ?_
                rw [show q 3 = nI np from hN.2.2.1]
                refine lv_iconst (v := 1) hx hb dX10_point_149 (by decide) ?_
                refine lv_iadd hx hb dX10_point_150 ?_
                refine lv_topi (fun t_60 et_60 => ?_)
                obtain rfl : t_60 = nI (np + 1) := et_60.trans (nI_c _ 1)
                refine h_put (ci := 10) (v := .int (nI (np + 1))) (C := RX10) (T := TX10) (N := 26) hx hb hts kl_X10 tyX10 tyX10_ok nmX10 hown hK hw hm_59.1 rfl 3 (by decide) (hts _ kf_X10_62) rfl rfl (tyX10_ok 3 (by decide)) rfl rfl (Nat.le_of_ble_eq_true rfl) dX10_point_151 (fun H_61 L_62 hw => ?_)
                obtain ⟨ah_63, eah_63⟩ : ∃ z9 : hA, z9 = hup ah_58 mo (.inr (10, moF (upd (upd q 0 0) 3 (nI (np + 1))) AR)) := ⟨_, rfl⟩
                have hw : hW D ah s.heap ah_63 H_61 L_62 := by rw [eah_63, ← mf_3]; exact hw
                have hm_64 : moA dT ah_63 mo AR (upd (upd q 0 0) 3 (nI (np + 1))) (va_up (va_up g 9 (upd (g 9) np x)) 10 (upd (g 10) np y)) := moA_q hm_59 eah_63
                refine lv_iload hx hb dX10_point_154 (lv_at hl 1 rfl) ?_
                refine lv_iconst (v := 3) hx hb dX10_point_156 (by decide) ?_
                refine lv_icmp_ne (tgt := 178) hx hb dX10_point_157 (by decide) (fun c_65 => ?_) (fun c_65 => ?_)
                · skip
                  refine lv_aload_n hx hb dX10_point_178 rfl (lv_at hl 3 rfl) ?_
                  refine h_get (ci := 10) (v := .ref (AR 4)) (C := RX10) (T := TX10) (N := 26) hx hb hts kl_X10 hown hK hw hm_64.1 rfl 9 (by decide) (hts _ kf_X10_22) rfl rfl dX10_point_179 ?_
                  refine lv_iload_n hx hb dX10_point_182 rfl (lv_at hl 2 rfl) ?_
                  refine lv_dup2_11 hx hb dX10_point_183 rfl rfl ?_
                  refine h_iald hx hb hK hw (moA_a (n := 2048) (f := g 4) hm_64 4 (by decide) rfl rfl) (OP (no - 1)) rfl (by omega) (by omega) dX10_point_184 ?_
                  rw [show (g 4) (OP (no - 1)) = nI (PC (OP (no - 1))) from (hS.2 _ (by omega)).2.2.2.2.1]
                  refine lv_iconst (v := 1) hx hb dX10_point_185 (by decide) ?_
                  refine lv_iadd hx hb dX10_point_186 ?_
                  refine lv_topi (fun t_66 et_66 => ?_)
                  obtain rfl : t_66 = nI (PC (OP (no - 1)) + 1) := et_66.trans (nI_c _ 1)
                  refine h_iast hx hb hK hw (moA_a (n := 2048) (f := g 4) hm_64 4 (by decide) rfl rfl) (OP (no - 1)) rfl (by omega) (by omega) dX10_point_187 (fun H_67 L_68 hw => ?_)
                  obtain ⟨ah_69, eah_69⟩ : ∃ z9 : hA, z9 = hup ah_63 (AR 4) (.inl (dT 0, 2048, .inl (upd (g 4) (OP (no - 1)) (nI (PC (OP (no - 1)) + 1))))) := ⟨_, rfl⟩
                  have hw : hW D ah s.heap ah_69 H_67 L_68 := by rw [eah_69]; exact hw
                  have hm_70 : moA dT ah_69 mo AR (upd (upd q 0 0) 3 (nI (np + 1))) (va_up (va_up (va_up g 9 (upd (g 9) np x)) 10 (upd (g 10) np y)) 4 (upd (g 4) (OP (no - 1)) (nI (PC (OP (no - 1)) + 1)))) := moA_g hm_64 4 (by decide) eah_69
                  refine lv_aload_n hx hb dX10_point_188 rfl (lv_at hl 3 rfl) ?_
                  refine h_get (ci := 10) (v := .int (nI (np + 1))) (C := RX10) (T := TX10) (N := 26) hx hb hts kl_X10 hown hK hw hm_70.1 rfl 3 (by decide) (hts _ kf_X10_62) rfl (congrArg (fun z => some (Value.int z)) (show (upd (upd q 0 0) 3 (nI (np + 1))) 3 = nI (np + 1) from upd_e)) dX10_point_189 ?_
                  rw [hQ]
                  exact h_iret hx hb hr hlk hsz hw (by simp) (by simp) dX10_point_192 (Or.inr (Or.inr (Or.inr ⟨⟨c_10, c_22⟩, ⟨hno0, c_50⟩, by omega, rfl, (upd (upd q 0 0) 3 (nI (np + 1))), (va_up (va_up (va_up g 9 (upd (g 9) np x)) 10 (upd (g 10) np y)) 4 (upd (g 4) (OP (no - 1)) (nI (PC (OP (no - 1)) + 1)))), hm_70, ⟨((show (upd (upd q 0 0) 3 (nI (np + 1))) 1 = q 1 from ((upd_n (by decide)).trans (upd_n (by decide)))).trans hN.1), ((show (upd (upd q 0 0) 3 (nI (np + 1))) 2 = q 2 from ((upd_n (by decide)).trans (upd_n (by decide)))).trans hN.2.1), (show (upd (upd q 0 0) 3 (nI (np + 1))) 3 = nI (np + 1) from upd_e), ((show (upd (upd q 0 0) 3 (nI (np + 1))) 4 = q 4 from ((upd_n (by decide)).trans (upd_n (by decide)))).trans hN.2.2.2.1), ((show (upd (upd q 0 0) 3 (nI (np + 1))) 5 = q 5 from ((upd_n (by decide)).trans (upd_n (by decide)))).trans hN.2.2.2.2.1), by omega⟩, (show (upd (upd q 0 0) 3 (nI (np + 1))) 0 = 0 from ((upd_n (by decide)).trans upd_e)), rfl, rfl, Or.inr ⟨c_65, rfl, rfl⟩, (fun k hk h4 h8 h9 h10 => by simp only [va_up, if_neg h4, if_neg h8, if_neg h9, if_neg h10]), (fun a e9 h1 h2 h3 => by rw [eah_69, hup_n (h3 4 (by decide)), eah_63, hup_n h2, eah_58, hup_n (h3 10 (by decide)), eah_54, hup_n (h3 9 (by decide)), eah_3, hup_n h2]; exact h1)⟩)))
                · skip
                  have hRC := mCan_3 c_50 c_65
                  refine lv_aload_n hx hb dX10_point_160 rfl (lv_at hl 3 rfl) ?_
                  refine h_get (ci := 10) (v := .ref (AR 8)) (C := RX10) (T := TX10) (N := 26) hx hb hts kl_X10 hown hK hw hm_64.1 rfl 13 (by decide) (hts _ kf_X10_34) rfl rfl dX10_point_161 ?_
                  refine lv_aload_n hx hb dX10_point_164 rfl (lv_at hl 3 rfl) ?_
                  refine h_get (ci := 10) (v := .int (q 4)) (C := RX10) (T := TX10) (N := 26) hx hb hts kl_X10 hown hK hw hm_64.1 rfl 4 (by decide) (hts _ kf_X10_65) rfl (congrArg (fun z => some (Value.int z)) (show (upd (upd q 0 0) 3 (nI (np + 1))) 4 = q 4 from ((upd_n (by decide)).trans (upd_n (by decide))))) dX10_point_165 ?_
                  rw [show q 4 = nI nr from hN.2.2.2.1]
                  refine lv_iconst (v := 1) hx hb dX10_point_168 (by decide) ?_
                  refine lv_isub hx hb dX10_point_169 ?_
                  refine lv_topi (fun t_71 et_71 => ?_)
                  obtain rfl : t_71 = nI (nr - 1) := et_71.trans (nI_s _ 1 (by omega))
                  refine lv_dup2_11 hx hb dX10_point_170 rfl rfl ?_
                  refine h_iald hx hb hK hw (moA_a (n := 4096) (f := g 8) hm_64 8 (by decide) rfl rfl) (nr - 1) rfl (by omega) (by omega) dX10_point_171 ?_
                  refine lv_iconst (v := 1) hx hb dX10_point_172 (by decide) ?_
                  refine lv_iadd hx hb dX10_point_173 ?_
                  refine h_iast hx hb hK hw (moA_a (n := 4096) (f := g 8) hm_64 8 (by decide) rfl rfl) (nr - 1) rfl (by omega) (by omega) dX10_point_174 (fun H_72 L_73 hw => ?_)
                  obtain ⟨ah_74, eah_74⟩ : ∃ z9 : hA, z9 = hup ah_63 (AR 8) (.inl (dT 0, 4096, .inl (upd (g 8) (nr - 1) ((g 8) (nr - 1) + 1)))) := ⟨_, rfl⟩
                  have hw : hW D ah s.heap ah_74 H_72 L_73 := by rw [eah_74]; exact hw
                  have hm_75 : moA dT ah_74 mo AR (upd (upd q 0 0) 3 (nI (np + 1))) (va_up (va_up (va_up g 9 (upd (g 9) np x)) 10 (upd (g 10) np y)) 8 (upd (g 8) (nr - 1) ((g 8) (nr - 1) + 1))) := moA_g hm_64 8 (by decide) eah_74
                  refine lv_goto (tgt := 188) hx hb dX10_point_175 (by decide) ?_
                  refine lv_aload_n hx hb dX10_point_188 rfl (lv_at hl 3 rfl) ?_
                  refine h_get (ci := 10) (v := .int (nI (np + 1))) (C := RX10) (T := TX10) (N := 26) hx hb hts kl_X10 hown hK hw hm_75.1 rfl 3 (by decide) (hts _ kf_X10_62) rfl (congrArg (fun z => some (Value.int z)) (show (upd (upd q 0 0) 3 (nI (np + 1))) 3 = nI (np + 1) from upd_e)) dX10_point_189 ?_
                  rw [hQ]
                  exact h_iret hx hb hr hlk hsz hw (by simp) (by simp) dX10_point_192 (Or.inr (Or.inr (Or.inr ⟨⟨c_10, c_22⟩, ⟨hno0, c_50⟩, by omega, rfl, (upd (upd q 0 0) 3 (nI (np + 1))), (va_up (va_up (va_up g 9 (upd (g 9) np x)) 10 (upd (g 10) np y)) 8 (upd (g 8) (nr - 1) ((g 8) (nr - 1) + 1))), hm_75, ⟨((show (upd (upd q 0 0) 3 (nI (np + 1))) 1 = q 1 from ((upd_n (by decide)).trans (upd_n (by decide)))).trans hN.1), ((show (upd (upd q 0 0) 3 (nI (np + 1))) 2 = q 2 from ((upd_n (by decide)).trans (upd_n (by decide)))).trans hN.2.1), (show (upd (upd q 0 0) 3 (nI (np + 1))) 3 = nI (np + 1) from upd_e), ((show (upd (upd q 0 0) 3 (nI (np + 1))) 4 = q 4 from ((upd_n (by decide)).trans (upd_n (by decide)))).trans hN.2.2.2.1), ((show (upd (upd q 0 0) 3 (nI (np + 1))) 5 = q 5 from ((upd_n (by decide)).trans (upd_n (by decide)))).trans hN.2.2.2.2.1), by omega⟩, (show (upd (upd q 0 0) 3 (nI (np + 1))) 0 = 0 from ((upd_n (by decide)).trans upd_e)), rfl, rfl, Or.inl ⟨c_65, rfl, rfl⟩, (fun k hk h4 h8 h9 h10 => by simp only [va_up, if_neg h4, if_neg h8, if_neg h9, if_neg h10]), (fun a e9 h1 h2 h3 => by rw [eah_74, hup_n (h3 8 (by decide)), eah_63, hup_n h2, eah_58, hup_n (h3 10 (by decide)), eah_54, hup_n (h3 9 (by decide)), eah_3, hup_n h2]; exact h1)⟩)))
              · skip
                have c_51 : np = 4096 := (nI_eqx (by rfl) (by decide) (by omega) (by omega)).mp c_51
                refine lv_aload_n hx hb dX10_point_118 rfl (lv_at hl 3 rfl) ?_
                refine lv_iconst (v := 3) hx hb dX10_point_119 (by decide) ?_
                refine h_callV (n := 1) (ci := 10) (b := mo) (As := [.int 3]) (rest := []) ⟨hx, hb, hml, hown, hts⟩ hK hw (c_X10_fail l D dT ah_3 H_25.size mo AR (upd q 0 0) g hm_4 3) ko_X10_fail km_X10_82 ki_X10_fail ks_X10_fail kn_X10 (by decide +kernel) rfl hm_4.1 rfl hl.1 rfl (by simp [Value.category]) dX10_point_120 (by rw [hR]; exact ⟨rfl, rfl, Nat.le_of_ble_eq_true rfl, Nat.le_of_ble_eq_true rfl, by simp, by simp⟩) (fun r_76 ah_77 H_78 L_79 st_80 hp hw hst => ?_)
                obtain ⟨rfl, eah_77⟩ := hp
                rw [show (upd (upd q 0 0) 0 3) = (upd q 0 3) from upd_s] at eah_77
                have hm_81 : moA dT ah_77 mo AR (upd q 0 3) g := moA_q hm_4 eah_77
                have hst : st_80 = [.int 0] := hst
                subst hst
                rw [hQ]
                exact h_iret hx hb hr hlk hsz hw (by simp) (by simp) dX10_point_123 (Or.inr (Or.inr (Or.inl ⟨⟨c_10, c_22⟩, ⟨hno0, c_50⟩, c_51, rfl, (by subst_vars; simp only [hup_hup, upd_s])⟩)))
            · skip
              have c_50 : mCan KD PC RC (OP (no - 1)) = false := bI_0.mp c_50
              refine lv_aload_n hx hb dX10_point_102 rfl (lv_at hl 3 rfl) ?_
              refine lv_iconst (v := 2) hx hb dX10_point_103 (by decide) ?_
              refine h_callV (n := 1) (ci := 10) (b := mo) (As := [.int 2]) (rest := []) ⟨hx, hb, hml, hown, hts⟩ hK hw (c_X10_fail l D dT ah_3 H_25.size mo AR (upd q 0 0) g hm_4 2) ko_X10_fail km_X10_82 ki_X10_fail ks_X10_fail kn_X10 (by decide +kernel) rfl hm_4.1 rfl hl.1 rfl (by simp [Value.category]) dX10_point_104 (by rw [hR]; exact ⟨rfl, rfl, Nat.le_of_ble_eq_true rfl, Nat.le_of_ble_eq_true rfl, by simp, by simp⟩) (fun r_82 ah_83 H_84 L_85 st_86 hp hw hst => ?_)
              obtain ⟨rfl, eah_83⟩ := hp
              rw [show (upd (upd q 0 0) 0 2) = (upd q 0 2) from upd_s] at eah_83
              have hm_87 : moA dT ah_83 mo AR (upd q 0 2) g := moA_q hm_4 eah_83
              have hst : st_86 = [.int 0] := hst
              subst hst
              rw [hQ]
              exact h_iret hx hb hr hlk hsz hw (by simp) (by simp) dX10_point_107 (Or.inr (Or.inl ⟨⟨c_10, c_22⟩, Or.inr c_50, rfl, (by subst_vars; simp only [hup_hup, upd_s])⟩))
          refine lv_icmp_ne (tgt := 69) hx hb dX10_point_57 (by decide) (fun c_40 => ?_) (fun c_40 => ?_)
          · skip
            refine lv_iload hx hb dX10_point_69 (lv_at hl 0 rfl) ?_
            refine lv_iconst (v := 2) hx hb dX10_point_71 (by decide) ?_
            refine lv_icmp_eq (tgt := 90) hx hb dX10_point_72 (by decide) (fun c_41 => ?_) (fun c_41 => ?_)
            · skip
              refine lv_iconst (v := 1) hx hb dX10_point_90 (by decide) ?_
              refine lv_goto (tgt := 95) hx hb dX10_point_91 (by decide) ?_
              exact J_49 1 ls (lv_sub hl [0, 1, 2, 3, 4] rfl) (by rw [if_neg c_40, if_pos c_41])
            · skip
              refine lv_iload hx hb dX10_point_75 (lv_at hl 0 rfl) ?_
              refine lv_iconst (v := 3) hx hb dX10_point_77 (by decide) ?_
              refine lv_icmp_ne (tgt := 94) hx hb dX10_point_78 (by decide) (fun c_42 => ?_) (fun c_42 => ?_)
              · skip
                refine lv_iconst (v := 0) hx hb dX10_point_94 (by decide) ?_
                exact J_49 0 ls (lv_sub hl [0, 1, 2, 3, 4] rfl) (by rw [if_neg c_40, if_neg c_41, if_neg c_42])
              · skip
                refine lv_aload_n hx hb dX10_point_81 rfl (lv_at hl 2 rfl) ?_
                refine h_get (ci := 10) (v := .ref (AR 6)) (C := RX10) (T := TX10) (N := 26) hx hb hts kl_X10 hown hK hw hm_4.1 rfl 11 (by decide) (hts _ kf_X10_28) rfl rfl dX10_point_82 ?_
                refine lv_iload_n hx hb dX10_point_85 rfl (lv_at hl 1 rfl) ?_
                refine h_iald hx hb hK hw (moA_a (n := 2048) (f := g 6) hm_4 6 (by decide) rfl rfl) (OP (no - 1)) rfl (by omega) (by omega) dX10_point_86 ?_
                rw [show (g 6) (OP (no - 1)) = nI (RC (OP (no - 1))) from (hS.2 _ (by omega)).2.2.2.2.2.2.1]
                refine lv_if_le (tgt := 94) hx hb dX10_point_87 (by decide) (fun c_43 => ?_) (fun c_43 => ?_)
                · skip
                  have c_43 : RC (OP (no - 1)) ≤ 0 := (nI_lex (by rfl) (by decide) (by omega) (by omega)).mp c_43
                  refine lv_iconst (v := 0) hx hb dX10_point_94 (by decide) ?_
                  exact J_49 0 ls (lv_sub hl [0, 1, 2, 3, 4] rfl) (by rw [if_neg c_40, if_neg c_41, if_pos c_42, if_pos c_43])
                · skip
                  have c_43 : ¬ (RC (OP (no - 1)) ≤ 0) := (not_congr (nI_lex (by rfl) (by decide) (by omega) (by omega))).mp c_43
                  refine lv_iconst (v := 1) hx hb dX10_point_90 (by decide) ?_
                  refine lv_goto (tgt := 95) hx hb dX10_point_91 (by decide) ?_
                  exact J_49 1 ls (lv_sub hl [0, 1, 2, 3, 4] rfl) (by rw [if_neg c_40, if_neg c_41, if_pos c_42, if_neg c_43])
          · skip
            refine lv_aload_n hx hb dX10_point_60 rfl (lv_at hl 2 rfl) ?_
            refine h_get (ci := 10) (v := .ref (AR 4)) (C := RX10) (T := TX10) (N := 26) hx hb hts kl_X10 hown hK hw hm_4.1 rfl 9 (by decide) (hts _ kf_X10_22) rfl rfl dX10_point_61 ?_
            refine lv_iload_n hx hb dX10_point_64 rfl (lv_at hl 1 rfl) ?_
            refine h_iald hx hb hK hw (moA_a (n := 2048) (f := g 4) hm_4 4 (by decide) rfl rfl) (OP (no - 1)) rfl (by omega) (by omega) dX10_point_65 ?_
            rw [show (g 4) (OP (no - 1)) = nI (PC (OP (no - 1))) from (hS.2 _ (by omega)).2.2.2.2.1]
            refine lv_if_eq (tgt := 90) hx hb dX10_point_66 (by decide) (fun c_44 => ?_) (fun c_44 => ?_)
            · skip
              have c_44 : PC (OP (no - 1)) = 0 := (nI_eqx (by rfl) (by decide) (by omega) (by omega)).mp c_44
              refine lv_iconst (v := 1) hx hb dX10_point_90 (by decide) ?_
              refine lv_goto (tgt := 95) hx hb dX10_point_91 (by decide) ?_
              exact J_49 1 ls (lv_sub hl [0, 1, 2, 3, 4] rfl) (by rw [if_pos c_40, if_pos c_44])
            · skip
              have c_44 : ¬ (PC (OP (no - 1)) = 0) := (not_congr (nI_eqx (by rfl) (by decide) (by omega) (by omega))).mp c_44
              refine lv_iload hx hb dX10_point_69 (lv_at hl 0 rfl) ?_
              refine lv_iconst (v := 2) hx hb dX10_point_71 (by decide) ?_
              refine lv_icmp_eq (tgt := 90) hx hb dX10_point_72 (by decide) (fun c_45 => ?_) (fun c_45 => ?_)
              · skip
                refine lv_iconst (v := 1) hx hb dX10_point_90 (by decide) ?_
                refine lv_goto (tgt := 95) hx hb dX10_point_91 (by decide) ?_
                exact J_49 1 ls (lv_sub hl [0, 1, 2, 3, 4] rfl) (by rw [if_pos c_40, if_neg c_44, if_pos c_45])
              · skip
                refine lv_iload hx hb dX10_point_75 (lv_at hl 0 rfl) ?_
                refine lv_iconst (v := 3) hx hb dX10_point_77 (by decide) ?_
                refine lv_icmp_ne (tgt := 94) hx hb dX10_point_78 (by decide) (fun c_46 => ?_) (fun c_46 => ?_)
                · skip
                  refine lv_iconst (v := 0) hx hb dX10_point_94 (by decide) ?_
                  exact J_49 0 ls (lv_sub hl [0, 1, 2, 3, 4] rfl) (by rw [if_pos c_40, if_neg c_44, if_neg c_45, if_neg c_46])
                · skip
                  refine lv_aload_n hx hb dX10_point_81 rfl (lv_at hl 2 rfl) ?_
                  refine h_get (ci := 10) (v := .ref (AR 6)) (C := RX10) (T := TX10) (N := 26) hx hb hts kl_X10 hown hK hw hm_4.1 rfl 11 (by decide) (hts _ kf_X10_28) rfl rfl dX10_point_82 ?_
                  refine lv_iload_n hx hb dX10_point_85 rfl (lv_at hl 1 rfl) ?_
                  refine h_iald hx hb hK hw (moA_a (n := 2048) (f := g 6) hm_4 6 (by decide) rfl rfl) (OP (no - 1)) rfl (by omega) (by omega) dX10_point_86 ?_
                  rw [show (g 6) (OP (no - 1)) = nI (RC (OP (no - 1))) from (hS.2 _ (by omega)).2.2.2.2.2.2.1]
                  refine lv_if_le (tgt := 94) hx hb dX10_point_87 (by decide) (fun c_47 => ?_) (fun c_47 => ?_)
                  · skip
                    have c_47 : RC (OP (no - 1)) ≤ 0 := (nI_lex (by rfl) (by decide) (by omega) (by omega)).mp c_47
                    refine lv_iconst (v := 0) hx hb dX10_point_94 (by decide) ?_
                    exact J_49 0 ls (lv_sub hl [0, 1, 2, 3, 4] rfl) (by rw [if_pos c_40, if_neg c_44, if_neg c_45, if_pos c_46, if_pos c_47])
                  · skip
                    have c_47 : ¬ (RC (OP (no - 1)) ≤ 0) := (not_congr (nI_lex (by rfl) (by decide) (by omega) (by omega))).mp c_47
                    refine lv_iconst (v := 1) hx hb dX10_point_90 (by decide) ?_
                    refine lv_goto (tgt := 95) hx hb dX10_point_91 (by decide) ?_
                    exact J_49 1 ls (lv_sub hl [0, 1, 2, 3, 4] rfl) (by rw [if_pos c_40, if_neg c_44, if_neg c_45, if_pos c_46, if_neg c_47])
        · skip
          have c_39 : ¬ (0 ≤ OP (no - 1)) := (not_congr (nI_lex (by decide) (by rfl) (by omega) (by omega))).mp c_39
          exfalso
          omega
    · skip
      have c_22 : wiB y (-1000000000) 1000000000 = false := bI_0.mp c_22
      refine lv_aload_n hx hb dX10_point_27 rfl (lv_at hl 0 rfl) ?_
      refine lv_iconst (v := 1) hx hb dX10_point_28 (by decide) ?_
      refine h_callV (n := 1) (ci := 10) (b := mo) (As := [.int 1]) (rest := []) ⟨hx, hb, hml, hown, hts⟩ hK hw (c_X10_fail l D dT ah_3 H_19.size mo AR (upd q 0 0) g hm_4 1) ko_X10_fail km_X10_82 ki_X10_fail ks_X10_fail kn_X10 (by decide +kernel) rfl hm_4.1 rfl hl.1 rfl (by simp [Value.category]) dX10_point_29 (by rw [hR]; exact ⟨rfl, rfl, Nat.le_of_ble_eq_true rfl, Nat.le_of_ble_eq_true rfl, by simp, by simp⟩) (fun r_88 ah_89 H_90 L_91 st_92 hp hw hst => ?_)
      obtain ⟨rfl, eah_89⟩ := hp
      rw [show (upd (upd q 0 0) 0 1) = (upd q 0 1) from upd_s] at eah_89
      have hm_93 : moA dT ah_89 mo AR (upd q 0 1) g := moA_q hm_4 eah_89
      have hst : st_92 = [.int 0] := hst
      subst hst
      rw [hQ]
      exact h_iret hx hb hr hlk hsz hw (by simp) (by simp) dX10_point_32 (Or.inl ⟨Or.inr c_22, rfl, (by subst_vars; simp only [hup_hup, upd_s])⟩)

set_option maxHeartbeats 4000000 in
set_option maxRecDepth 100000 in
theorem c_X10_open (l : Launch) (D : va_G) (dT : Nat → ClassId) (ah : hA) (sz : Nat) (mo : Nat) (AR : Nat → Nat) (q : Nat → Int32) (g : Nat → Nat → Int32) (hm : moA dT ah mo AR q g) (ns nu np nr no : Nat) (hN : moN q ns nu np nr no) (FG RC PF PC : Nat → Nat) (KD WH PA : Nat → Int32) (hS : moS ns np nr g FG RC PF PC KD WH PA) (OP : Nat → Nat) (hOQ : ∀ j, j < no → g 11 j = nI (OP j) ∧ OP j < ns) (x : Int32) : hMet l yX10_open cX10_open 4 (some .int) ({ frames := 2, cells := 0, slots := 0, locals := 42 }) D dT [.ref mo, .int x] ah sz (fun r ah2 => (wiB x 1 7 = false ∧ r = some (.int 0) ∧ ah2 = hup ah mo (.inr (10, moF (upd q 0 1) AR))) ∨ (¬ wiB x 1 7 = false ∧ mTake KD OP ns no x = false ∧ r = some (.int 0) ∧ ah2 = hup ah mo (.inr (10, moF (upd q 0 2) AR))) ∨ (¬ wiB x 1 7 = false ∧ ¬ mTake KD OP ns no x = false ∧ 4096 < nu + 2 ∧ r = some (.int 0) ∧ ah2 = hup ah mo (.inr (10, moF (upd q 0 3) AR))) ∨ (¬ wiB x 1 7 = false ∧ ¬ mTake KD OP ns no x = false ∧ nu + 2 ≤ 4096 ∧ r = some (.int (nI (no + 1))) ∧ ∃ q2 g2, moA dT ah2 mo AR q2 g2 ∧ moN q2 (ns + 1) (nu + 2) np nr (no + 1) ∧ q2 0 = 0 ∧ g2 0 = upd (g 0) ns x ∧ g2 1 = upd (g 1) ns (topI OP no) ∧ g2 2 = upd (g 2) ns (nI (cntP WH (topI OP no) ns)) ∧ g2 3 = upd (g 3) ns (nI np) ∧ g2 4 = upd (g 4) ns 0 ∧ g2 5 = upd (g 5) ns (nI nr) ∧ g2 6 = upd (g 6) ns 0 ∧ g2 11 = upd (g 11) no (nI ns) ∧ (∀ k, 7 ≤ k → k < 14 → ¬ k = 11 → g2 k = g k) ∧ moFr ah ah2 mo AR)) 0 0 := by
  refine h_met (by decide) (Nat.le_of_ble_eq_true rfl) ?_
  intro p e s m below meth c ls R Q args hav hR hQ hB hl hsz hw
  obtain ⟨hx, hb, hml, hr, hts, hown, hlk, hin, hK⟩ := hB
  have hown : s.vm.findClass RX10 = some m.cls := hown
  have hl : lv_has ls 4 [(0, .ref mo), (1, .int x)] := hl
  have hns9 := hS.1
  obtain ⟨hn1, hn2, hn3, hn4, hn5⟩ := hN.2.2.2.2.2
  have hO1 : 0 < no → OP (no - 1) < ns := fun h9 => (hOQ _ (by omega)).2
  refine lv_aload_n hx hb dX10_open_0 rfl (lv_at hl 0 rfl) ?_
  refine lv_iconst (v := 0) hx hb dX10_open_1 (by decide) ?_
  refine h_put (ci := 10) (v := .int 0) (C := RX10) (T := TX10) (N := 26) hx hb hts kl_X10 tyX10 tyX10_ok nmX10 hown hK hw hm.1 rfl 0 (by decide) (hts _ kf_X10_52) rfl rfl (tyX10_ok 0 (by decide)) rfl rfl (Nat.le_of_ble_eq_true rfl) dX10_open_2 (fun H_1 L_2 hw => ?_)
  obtain ⟨ah_3, eah_3⟩ : ∃ z9 : hA, z9 = hup ah mo (.inr (10, moF (upd q 0 0) AR)) := ⟨_, rfl⟩
  have hw : hW D ah s.heap ah_3 H_1 L_2 := by rw [eah_3, ← mf_0]; exact hw
  have hm_4 : moA dT ah_3 mo AR (upd q 0 0) g := moA_q hm eah_3
  refine lv_iload_n hx hb dX10_open_5 rfl (lv_at hl 1 rfl) ?_
  refine lv_iconst (v := 1) hx hb dX10_open_6 (by decide) ?_
  refine lv_bipush (v := 7) hx hb dX10_open_7 (by decide) ?_
  refine h_callS (n := 3) (As := [.int x, .int 1, .int 7]) (rest := []) ⟨hx, hb, hml, hown, hts⟩ hK hw (c_X10_within l D dT ah_3 H_1.size x 1 7) ko_X10_within km_X10_78 kt_X10_within kn_X10 (by decide +kernel) rfl hl.1 rfl (by simp [Value.category]) dX10_open_9 (by rw [hR]; exact ⟨rfl, rfl, Nat.le_of_ble_eq_true rfl, Nat.le_of_ble_eq_true rfl, by simp, by simp⟩) (fun r_5 ah_6 H_7 L_8 st_9 hp hw hst => ?_)
  obtain ⟨rfl, rfl⟩ := hp
  have hst : st_9 = [.int (bI (wiB x 1 7))] := hst
  subst hst
  refine lv_if_ne (tgt := 21) hx hb dX10_open_12 (by decide) (fun c_10 => ?_) (fun c_10 => ?_)
  · skip
    have c_10 : ¬ (wiB x 1 7 = false) := (not_congr bI_0).mp c_10
    refine lv_aload_n hx hb dX10_open_21 rfl (lv_at hl 0 rfl) ?_
    refine lv_iload_n hx hb dX10_open_22 rfl (lv_at hl 1 rfl) ?_
    refine h_callV (n := 1) (ci := 10) (b := mo) (As := [.int x]) (rest := []) ⟨hx, hb, hml, hown, hts⟩ hK hw (c_X10_takes l D dT ah_3 H_7.size mo AR (upd q 0 0) g hm_4 ns nu np nr no hN FG RC PF PC KD WH PA hS OP hOQ x) ko_X10_takes km_X10_86 ki_X10_takes ks_X10_takes kn_X10 (by decide +kernel) rfl hm_4.1 rfl hl.1 rfl (by simp [Value.category]) dX10_open_23 (by rw [hR]; exact ⟨rfl, rfl, Nat.le_of_ble_eq_true rfl, Nat.le_of_ble_eq_true rfl, by simp, by simp⟩) (fun r_11 ah_12 H_13 L_14 st_15 hp hw hst => ?_)
    obtain ⟨rfl, rfl⟩ := hp
    have hst : st_15 = [.int (bI (mTake KD OP ns no x))] := hst
    subst hst
    refine lv_if_ne (tgt := 35) hx hb dX10_open_26 (by decide) (fun c_16 => ?_) (fun c_16 => ?_)
    · skip
      have c_16 : ¬ (mTake KD OP ns no x = false) := (not_congr bI_0).mp c_16
      refine lv_aload_n hx hb dX10_open_35 rfl (lv_at hl 0 rfl) ?_
      refine h_get (ci := 10) (v := .int (q 2)) (C := RX10) (T := TX10) (N := 26) hx hb hts kl_X10 hown hK hw hm_4.1 rfl 2 (by decide) (hts _ kf_X10_56) rfl (congrArg (fun z => some (Value.int z)) (show (upd q 0 0) 2 = q 2 from (upd_n (by decide)))) dX10_open_36 ?_
      rw [show q 2 = nI nu from hN.2.1]
      refine lv_iconst (v := 2) hx hb dX10_open_39 (by decide) ?_
      refine lv_iadd hx hb dX10_open_40 ?_
      refine lv_topi (fun t_17 et_17 => ?_)
      obtain rfl : t_17 = nI (nu + 2) := et_17.trans (nI_c _ 2)
      refine lv_sipush (v := 4096) hx hb dX10_open_41 (by decide) ?_
      refine lv_icmp_le (tgt := 53) hx hb dX10_open_44 (by decide) (fun c_18 => ?_) (fun c_18 => ?_)
      · skip
        have c_18 : nu + 2 ≤ 4096 := (nI_lex (by rfl) (by decide) (by omega) (by omega)).mp c_18
        have hno9 := mTake_no c_16
        refine lv_aload_n hx hb dX10_open_53 rfl (lv_at hl 0 rfl) ?_
        refine lv_dup hx hb dX10_open_54 rfl ?_
        refine h_get (ci := 10) (v := .int (q 2)) (C := RX10) (T := TX10) (N := 26) hx hb hts kl_X10 hown hK hw hm_4.1 rfl 2 (by decide) (hts _ kf_X10_56) rfl (congrArg (fun z => some (Value.int z)) (show (upd q 0 0) 2 = q 2 from (upd_n (by decide)))) dX10_open_55 ?_
        rw [show q 2 = nI nu from hN.2.1]
        refine lv_iconst (v := 2) hx hb dX10_open_58 (by decide) ?_
        refine lv_iadd hx hb dX10_open_59 ?_
        refine lv_topi (fun t_19 et_19 => ?_)
        obtain rfl : t_19 = nI (nu + 2) := et_19.trans (nI_c _ 2)
        refine h_put (ci := 10) (v := .int (nI (nu + 2))) (C := RX10) (T := TX10) (N := 26) hx hb hts kl_X10 tyX10 tyX10_ok nmX10 hown hK hw hm_4.1 rfl 2 (by decide) (hts _ kf_X10_56) rfl rfl (tyX10_ok 2 (by decide)) rfl rfl (Nat.le_of_ble_eq_true rfl) dX10_open_60 (fun H_20 L_21 hw => ?_)
        obtain ⟨ah_22, eah_22⟩ : ∃ z9 : hA, z9 = hup ah_3 mo (.inr (10, moF (upd (upd q 0 0) 2 (nI (nu + 2))) AR)) := ⟨_, rfl⟩
        have hw : hW D ah s.heap ah_22 H_20 L_21 := by rw [eah_22, ← mf_2]; exact hw
        have hm_23 : moA dT ah_22 mo AR (upd (upd q 0 0) 2 (nI (nu + 2))) g := moA_q hm_4 eah_22
        refine lv_aload_n hx hb dX10_open_63 rfl (lv_at hl 0 rfl) ?_
        refine h_get (ci := 10) (v := .int (q 1)) (C := RX10) (T := TX10) (N := 26) hx hb hts kl_X10 hown hK hw hm_23.1 rfl 1 (by decide) (hts _ kf_X10_59) rfl (congrArg (fun z => some (Value.int z)) (show (upd (upd q 0 0) 2 (nI (nu + 2))) 1 = q 1 from ((upd_n (by decide)).trans (upd_n (by decide))))) dX10_open_64 ?_
        rw [show q 1 = nI ns from hN.1]
        refine lv_istore_n (lv' := [(2, .int (nI ns)), (0, .ref mo), (1, .int x)]) hx hb dX10_open_67 rfl hl (by decide) rfl (fun ls hl => ?_)
        refine lv_aload_n hx hb dX10_open_68 rfl (lv_at hl 1 rfl) ?_
        refine lv_dup hx hb dX10_open_69 rfl ?_
        refine h_get (ci := 10) (v := .int (q 1)) (C := RX10) (T := TX10) (N := 26) hx hb hts kl_X10 hown hK hw hm_23.1 rfl 1 (by decide) (hts _ kf_X10_59) rfl (congrArg (fun z => some (Value.int z)) (show (upd (upd q 0 0) 2 (nI (nu + 2))) 1 = q 1 from ((upd_n (by decide)).trans (upd_n (by decide))))) dX10_open_70 ?_
        rw [show q 1 = nI ns from hN.1]
        refine lv_iconst (v := 1) hx hb dX10_open_73 (by decide) ?_
        refine lv_iadd hx hb dX10_open_74 ?_
        refine lv_topi (fun t_24 et_24 => ?_)
        obtain rfl : t_24 = nI (ns + 1) := et_24.trans (nI_c _ 1)
        refine h_put (ci := 10) (v := .int (nI (ns + 1))) (C := RX10) (T := TX10) (N := 26) hx hb hts kl_X10 tyX10 tyX10_ok nmX10 hown hK hw hm_23.1 rfl 1 (by decide) (hts _ kf_X10_59) rfl rfl (tyX10_ok 1 (by decide)) rfl rfl (Nat.le_of_ble_eq_true rfl) dX10_open_75 (fun H_25 L_26 hw => ?_)
        obtain ⟨ah_27, eah_27⟩ : ∃ z9 : hA, z9 = hup ah_22 mo (.inr (10, moF (upd (upd (upd q 0 0) 1 (nI (ns + 1))) 2 (nI (nu + 2))) AR)) := ⟨_, rfl⟩
        have hw : hW D ah s.heap ah_27 H_25 L_26 := by rw [eah_27, ← show (upd (upd (upd q 0 0) 2 (nI (nu + 2))) 1 (nI (ns + 1))) = (upd (upd (upd q 0 0) 1 (nI (ns + 1))) 2 (nI (nu + 2))) from (upd_c (by decide)), ← mf_1]; exact hw
        have hm_28 : moA dT ah_27 mo AR (upd (upd (upd q 0 0) 1 (nI (ns + 1))) 2 (nI (nu + 2))) g := moA_q hm_23 eah_27
        refine lv_aload_n hx hb dX10_open_78 rfl (lv_at hl 1 rfl) ?_
        refine h_get (ci := 10) (v := .ref (AR 0)) (C := RX10) (T := TX10) (N := 26) hx hb hts kl_X10 hown hK hw hm_28.1 rfl 5 (by decide) (hts _ kf_X10_7) rfl rfl dX10_open_79 ?_
        refine lv_iload_n hx hb dX10_open_82 rfl (lv_at hl 0 rfl) ?_
        refine lv_iload_n hx hb dX10_open_83 rfl (lv_at hl 2 rfl) ?_
        refine h_iast hx hb hK hw (moA_a (n := 2048) (f := g 0) hm_28 0 (by decide) rfl rfl) ns rfl (by omega) (by omega) dX10_open_84 (fun H_29 L_30 hw => ?_)
        obtain ⟨ah_31, eah_31⟩ : ∃ z9 : hA, z9 = hup ah_27 (AR 0) (.inl (dT 0, 2048, .inl (upd (g 0) ns x))) := ⟨_, rfl⟩
        have hw : hW D ah s.heap ah_31 H_29 L_30 := by rw [eah_31]; exact hw
        have hm_32 : moA dT ah_31 mo AR (upd (upd (upd q 0 0) 1 (nI (ns + 1))) 2 (nI (nu + 2))) (va_up g 0 (upd (g 0) ns x)) := moA_g hm_28 0 (by decide) eah_31
        refine lv_aload_n hx hb dX10_open_85 rfl (lv_at hl 1 rfl) ?_
        refine h_get (ci := 10) (v := .ref (AR 1)) (C := RX10) (T := TX10) (N := 26) hx hb hts kl_X10 hown hK hw hm_32.1 rfl 6 (by decide) (hts _ kf_X10_13) rfl rfl dX10_open_86 ?_
        refine lv_iload_n hx hb dX10_open_89 rfl (lv_at hl 0 rfl) ?_
        refine lv_aload_n hx hb dX10_open_90 rfl (lv_at hl 1 rfl) ?_
        refine h_callV (n := 0) (ci := 10) (b := mo) (As := []) (rest := [.int (nI ns), .ref (AR 1)]) ⟨hx, hb, hml, hown, hts⟩ hK hw (c_X10_top l D dT ah_31 H_29.size mo AR (upd (upd (upd q 0 0) 1 (nI (ns + 1))) 2 (nI (nu + 2))) (va_up g 0 (upd (g 0) ns x)) hm_32 OP no ⟨((show (upd (upd (upd q 0 0) 1 (nI (ns + 1))) 2 (nI (nu + 2))) 5 = q 5 from ((upd_n (by decide)).trans ((upd_n (by decide)).trans (upd_n (by decide))))).trans hN.2.2.2.2.1), hN.2.2.2.2.2.2.2.2.1, fun j hj => (hOQ j hj).1⟩) ko_X10_top km_X10_74 ki_X10_top ks_X10_top kn_X10 (by decide +kernel) rfl hm_32.1 rfl hl.1 rfl (by simp [Value.category]) dX10_open_91 (by rw [hR]; exact ⟨rfl, rfl, Nat.le_of_ble_eq_true rfl, Nat.le_of_ble_eq_true rfl, by simp, by simp⟩) (fun r_33 ah_34 H_35 L_36 st_37 hp hw hst => ?_)
        obtain ⟨rfl, rfl⟩ := hp
        have hst : st_37 = [.int (topI OP no), .int (nI ns), .ref (AR 1)] := hst
        subst hst
        refine h_iast hx hb hK hw (moA_a (n := 2048) (f := g 1) hm_32 1 (by decide) rfl rfl) ns rfl (by omega) (by omega) dX10_open_94 (fun H_38 L_39 hw => ?_)
        obtain ⟨ah_40, eah_40⟩ : ∃ z9 : hA, z9 = hup ah_31 (AR 1) (.inl (dT 0, 2048, .inl (upd (g 1) ns (topI OP no)))) := ⟨_, rfl⟩
        have hw : hW D ah s.heap ah_40 H_38 L_39 := by rw [eah_40]; exact hw
        have hm_41 : moA dT ah_40 mo AR (upd (upd (upd q 0 0) 1 (nI (ns + 1))) 2 (nI (nu + 2))) (va_up (va_up g 0 (upd (g 0) ns x)) 1 (upd (g 1) ns (topI OP no))) := moA_g hm_32 1 (by decide) eah_40
        refine lv_aload_n hx hb dX10_open_95 rfl (lv_at hl 1 rfl) ?_
        refine h_get (ci := 10) (v := .ref (AR 2)) (C := RX10) (T := TX10) (N := 26) hx hb hts kl_X10 hown hK hw hm_41.1 rfl 7 (by decide) (hts _ kf_X10_16) rfl rfl dX10_open_96 ?_
        refine lv_iload_n hx hb dX10_open_99 rfl (lv_at hl 0 rfl) ?_
        refine lv_iconst (v := 0) hx hb dX10_open_100 (by decide) ?_
        refine h_iast hx hb hK hw (moA_a (n := 2048) (f := g 2) hm_41 2 (by decide) rfl rfl) ns rfl (by omega) (by omega) dX10_open_101 (fun H_42 L_43 hw => ?_)
        obtain ⟨ah_44, eah_44⟩ : ∃ z9 : hA, z9 = hup ah_40 (AR 2) (.inl (dT 0, 2048, .inl (upd (g 2) ns 0))) := ⟨_, rfl⟩
        have hw : hW D ah s.heap ah_44 H_42 L_43 := by rw [eah_44]; exact hw
        have hm_45 : moA dT ah_44 mo AR (upd (upd (upd q 0 0) 1 (nI (ns + 1))) 2 (nI (nu + 2))) (va_up (va_up (va_up g 0 (upd (g 0) ns x)) 1 (upd (g 1) ns (topI OP no))) 2 (upd (g 2) ns 0)) := moA_g hm_41 2 (by decide) eah_44
        refine lv_iconst (v := 0) hx hb dX10_open_102 (by decide) ?_
        refine lv_istore_n (lv' := [(3, .int 0), (2, .int (nI ns)), (0, .ref mo), (1, .int x)]) hx hb dX10_open_103 rfl hl (by decide) rfl (fun ls hl => ?_)
        have LP104 : ∀ (k104 : Nat) (k : Nat) (ah104 : hA) (ls : Array Slot) (H104 : Heap) (L104 : List Loc), (ns - k < k104) → (k ≤ ns) → (ah104 = hup ah_40 (AR 2) (.inl (dT 0, 2048, .inl (upd (g 2) ns (nI (cntP WH (topI OP no) k)))))) → lv_has ls 4 [(3, .int (nI k)), (2, .int (nI ns)), (1, .int x), (0, .ref mo)] → hW D ah s.heap ah104 H104 L104 → W p l e R s m args below meth c H104 L104 (0) (0) Q (F0 m 104 ls []) := by
          intro k104
          induction k104 with
          | zero => intro k ah104 ls H104 L104 hk; exact absurd hk (Nat.not_lt_zero _)
          | succ k104 ih104 =>
            intro k ah104 ls H104 L104 hk104 hk104 he104 hl hw
            have hm104 : moA dT ah104 mo AR (upd (upd (upd q 0 0) 1 (nI (ns + 1))) 2 (nI (nu + 2))) (va_up (va_up (va_up g 0 (upd (g 0) ns x)) 1 (upd (g 1) ns (topI OP no))) 2 (upd (g 2) ns (nI (cntP WH (topI OP no) k)))) := moA_g hm_41 2 (by decide) he104
            refine lv_iload_n hx hb dX10_open_104 rfl (lv_at hl 0 rfl) ?_
            refine lv_iload_n hx hb dX10_open_105 rfl (lv_at hl 1 rfl) ?_
            refine lv_icmp_ge (tgt := 149) hx hb dX10_open_106 (by decide) (fun c_46 => ?_) (fun c_46 => ?_)
            · skip
              have c_46 : ns ≤ k := (nI_lex (by rfl) (by rfl) (by omega) (by omega)).mp c_46
              refine lv_aload_n hx hb dX10_open_149 rfl (lv_at hl 3 rfl) ?_
              refine h_get (ci := 10) (v := .ref (AR 3)) (C := RX10) (T := TX10) (N := 26) hx hb hts kl_X10 hown hK hw hm104.1 rfl 8 (by decide) (hts _ kf_X10_19) rfl rfl dX10_open_150 ?_
              refine lv_iload_n hx hb dX10_open_153 rfl (lv_at hl 1 rfl) ?_
              refine lv_aload_n hx hb dX10_open_154 rfl (lv_at hl 3 rfl) ?_
              refine h_get (ci := 10) (v := .int (q 3)) (C := RX10) (T := TX10) (N := 26) hx hb hts kl_X10 hown hK hw hm104.1 rfl 3 (by decide) (hts _ kf_X10_62) rfl (congrArg (fun z => some (Value.int z)) (show (upd (upd (upd q 0 0) 1 (nI (ns + 1))) 2 (nI (nu + 2))) 3 = q 3 from ((upd_n (by decide)).trans ((upd_n (by decide)).trans (upd_n (by decide)))))) dX10_open_155 ?_
              rw [show q 3 = nI np from hN.2.2.1]
              refine h_iast hx hb hK hw (moA_a (n := 2048) (f := g 3) hm104 3 (by decide) rfl rfl) ns rfl (by omega) (by omega) dX10_open_158 (fun H_47 L_48 hw => ?_)
              obtain ⟨ah_49, eah_49⟩ : ∃ z9 : hA, z9 = hup ah104 (AR 3) (.inl (dT 0, 2048, .inl (upd (g 3) ns (nI np)))) := ⟨_, rfl⟩
              have hw : hW D ah s.heap ah_49 H_47 L_48 := by rw [eah_49]; exact hw
              have hm_50 : moA dT ah_49 mo AR (upd (upd (upd q 0 0) 1 (nI (ns + 1))) 2 (nI (nu + 2))) (va_up (va_up (va_up (va_up g 0 (upd (g 0) ns x)) 1 (upd (g 1) ns (topI OP no))) 2 (upd (g 2) ns (nI (cntP WH (topI OP no) k)))) 3 (upd (g 3) ns (nI np))) := moA_g hm104 3 (by decide) eah_49
              refine lv_aload_n hx hb dX10_open_159 rfl (lv_at hl 3 rfl) ?_
              refine h_get (ci := 10) (v := .ref (AR 4)) (C := RX10) (T := TX10) (N := 26) hx hb hts kl_X10 hown hK hw hm_50.1 rfl 9 (by decide) (hts _ kf_X10_22) rfl rfl dX10_open_160 ?_
              refine lv_iload_n hx hb dX10_open_163 rfl (lv_at hl 1 rfl) ?_
              refine lv_iconst (v := 0) hx hb dX10_open_164 (by decide) ?_
              refine h_iast hx hb hK hw (moA_a (n := 2048) (f := g 4) hm_50 4 (by decide) rfl rfl) ns rfl (by omega) (by omega) dX10_open_165 (fun H_51 L_52 hw => ?_)
              obtain ⟨ah_53, eah_53⟩ : ∃ z9 : hA, z9 = hup ah_49 (AR 4) (.inl (dT 0, 2048, .inl (upd (g 4) ns 0))) := ⟨_, rfl⟩
              have hw : hW D ah s.heap ah_53 H_51 L_52 := by rw [eah_53]; exact hw
              have hm_54 : moA dT ah_53 mo AR (upd (upd (upd q 0 0) 1 (nI (ns + 1))) 2 (nI (nu + 2))) (va_up (va_up (va_up (va_up (va_up g 0 (upd (g 0) ns x)) 1 (upd (g 1) ns (topI OP no))) 2 (upd (g 2) ns (nI (cntP WH (topI OP no) k)))) 3 (upd (g 3) ns (nI np))) 4 (upd (g 4) ns 0)) := moA_g hm_50 4 (by decide) eah_53
              refine lv_aload_n hx hb dX10_open_166 rfl (lv_at hl 3 rfl) ?_
              refine h_get (ci := 10) (v := .ref (AR 5)) (C := RX10) (T := TX10) (N := 26) hx hb hts kl_X10 hown hK hw hm_54.1 rfl 10 (by decide) (hts _ kf_X10_25) rfl rfl dX10_open_167 ?_
              refine lv_iload_n hx hb dX10_open_170 rfl (lv_at hl 1 rfl) ?_
              refine lv_aload_n hx hb dX10_open_171 rfl (lv_at hl 3 rfl) ?_
              refine h_get (ci := 10) (v := .int (q 4)) (C := RX10) (T := TX10) (N := 26) hx hb hts kl_X10 hown hK hw hm_54.1 rfl 4 (by decide) (hts _ kf_X10_65) rfl (congrArg (fun z => some (Value.int z)) (show (upd (upd (upd q 0 0) 1 (nI (ns + 1))) 2 (nI (nu + 2))) 4 = q 4 from ((upd_n (by decide)).trans ((upd_n (by decide)).trans (upd_n (by decide)))))) dX10_open_172 ?_
              rw [show q 4 = nI nr from hN.2.2.2.1]
              refine h_iast hx hb hK hw (moA_a (n := 2048) (f := g 5) hm_54 5 (by decide) rfl rfl) ns rfl (by omega) (by omega) dX10_open_175 (fun H_55 L_56 hw => ?_)
              obtain ⟨ah_57, eah_57⟩ : ∃ z9 : hA, z9 = hup ah_53 (AR 5) (.inl (dT 0, 2048, .inl (upd (g 5) ns (nI nr)))) := ⟨_, rfl⟩
              have hw : hW D ah s.heap ah_57 H_55 L_56 := by rw [eah_57]; exact hw
              have hm_58 : moA dT ah_57 mo AR (upd (upd (upd q 0 0) 1 (nI (ns + 1))) 2 (nI (nu + 2))) (va_up (va_up (va_up (va_up (va_up (va_up g 0 (upd (g 0) ns x)) 1 (upd (g 1) ns (topI OP no))) 2 (upd (g 2) ns (nI (cntP WH (topI OP no) k)))) 3 (upd (g 3) ns (nI np))) 4 (upd (g 4) ns 0)) 5 (upd (g 5) ns (nI nr))) := moA_g hm_54 5 (by decide) eah_57
              refine lv_aload_n hx hb dX10_open_176 rfl (lv_at hl 3 rfl) ?_
              refine h_get (ci := 10) (v := .ref (AR 6)) (C := RX10) (T := TX10) (N := 26) hx hb hts kl_X10 hown hK hw hm_58.1 rfl 11 (by decide) (hts _ kf_X10_28) rfl rfl dX10_open_177 ?_
              refine lv_iload_n hx hb dX10_open_180 rfl (lv_at hl 1 rfl) ?_
              refine lv_iconst (v := 0) hx hb dX10_open_181 (by decide) ?_
              refine h_iast hx hb hK hw (moA_a (n := 2048) (f := g 6) hm_58 6 (by decide) rfl rfl) ns rfl (by omega) (by omega) dX10_open_182 (fun H_59 L_60 hw => ?_)
              obtain ⟨ah_61, eah_61⟩ : ∃ z9 : hA, z9 = hup ah_57 (AR 6) (.inl (dT 0, 2048, .inl (upd (g 6) ns 0))) := ⟨_, rfl⟩
              have hw : hW D ah s.heap ah_61 H_59 L_60 := by rw [eah_61]; exact hw
              have hm_62 : moA dT ah_61 mo AR (upd (upd (upd q 0 0) 1 (nI (ns + 1))) 2 (nI (nu + 2))) (va_up (va_up (va_up (va_up (va_up (va_up (va_up g 0 (upd (g 0) ns x)) 1 (upd (g 1) ns (topI OP no))) 2 (upd (g 2) ns (nI (cntP WH (topI OP no) k)))) 3 (upd (g 3) ns (nI np))) 4 (upd (g 4) ns 0)) 5 (upd (g 5) ns (nI nr))) 6 (upd (g 6) ns 0)) := moA_g hm_58 6 (by decide) eah_61
              refine lv_aload_n hx hb dX10_open_183 rfl (lv_at hl 3 rfl) ?_
              refine h_get (ci := 10) (v := .ref (AR 11)) (C := RX10) (T := TX10) (N := 26) hx hb hts kl_X10 hown hK hw hm_62.1 rfl 17 (by decide) (hts _ kf_X10_43) rfl rfl dX10_open_184 ?_
              refine lv_aload_n hx hb dX10_open_187 rfl (lv_at hl 3 rfl) ?_
              refine h_get (ci := 10) (v := .int (q 5)) (C := RX10) (T := TX10) (N := 26) hx hb hts kl_X10 hown hK hw hm_62.1 rfl 16 (by decide) (hts _ kf_X10_68) rfl (congrArg (fun z => some (Value.int z)) (show (upd (upd (upd q 0 0) 1 (nI (ns + 1))) 2 (nI (nu + 2))) 5 = q 5 from ((upd_n (by decide)).trans ((upd_n (by decide)).trans (upd_n (by decide)))))) dX10_open_188 ?_
              rw [show q 5 = nI no from hN.2.2.2.2.1]
              refine lv_iload_n hx hb dX10_open_191 rfl (lv_at hl 1 rfl) ?_
              refine h_iast hx hb hK hw (moA_a (n := 50) (f := g 11) hm_62 11 (by decide) rfl rfl) no rfl (by omega) (by omega) dX10_open_192 (fun H_63 L_64 hw => ?_)
              obtain ⟨ah_65, eah_65⟩ : ∃ z9 : hA, z9 = hup ah_61 (AR 11) (.inl (dT 0, 50, .inl (upd (g 11) no (nI ns)))) := ⟨_, rfl⟩
              have hw : hW D ah s.heap ah_65 H_63 L_64 := by rw [eah_65]; exact hw
              have hm_66 : moA dT ah_65 mo AR (upd (upd (upd q 0 0) 1 (nI (ns + 1))) 2 (nI (nu + 2))) (va_up (va_up (va_up (va_up (va_up (va_up (va_up (va_up g 0 (upd (g 0) ns x)) 1 (upd (g 1) ns (topI OP no))) 2 (upd (g 2) ns (nI (cntP WH (topI OP no) k)))) 3 (upd (g 3) ns (nI np))) 4 (upd (g 4) ns 0)) 5 (upd (g 5) ns (nI nr))) 6 (upd (g 6) ns 0)) 11 (upd (g 11) no (nI ns))) := moA_g hm_62 11 (by decide) eah_65
              refine lv_aload_n hx hb dX10_open_193 rfl (lv_at hl 3 rfl) ?_
              refine lv_dup hx hb dX10_open_194 rfl ?_
              refine h_get (ci := 10) (v := .int (q 5)) (C := RX10) (T := TX10) (N := 26) hx hb hts kl_X10 hown hK hw hm_66.1 rfl 16 (by decide) (hts _ kf_X10_68) rfl (congrArg (fun z => some (Value.int z)) (show (upd (upd (upd q 0 0) 1 (nI (ns + 1))) 2 (nI (nu + 2))) 5 = q 5 from ((upd_n (by decide)).trans ((upd_n (by decide)).trans (upd_n (by decide)))))) dX10_open_195 ?_
              rw [show q 5 = nI no from hN.2.2.2.2.1]
              refine lv_iconst (v := 1) hx hb dX10_open_198 (by decide) ?_
              refine lv_iadd hx hb dX10_open_199 ?_
              refine lv_topi (fun t_67 et_67 => ?_)
              obtain rfl : t_67 = nI (no + 1) := et_67.trans (nI_c _ 1)
              refine h_put (ci := 10) (v := .int (nI (no + 1))) (C := RX10) (T := TX10) (N := 26) hx hb hts kl_X10 tyX10 tyX10_ok nmX10 hown hK hw hm_66.1 rfl 16 (by decide) (hts _ kf_X10_68) rfl rfl (tyX10_ok 16 (by decide)) rfl rfl (Nat.le_of_ble_eq_true rfl) dX10_open_200 (fun H_68 L_69 hw => ?_)
              obtain ⟨ah_70, eah_70⟩ : ∃ z9 : hA, z9 = hup ah_65 mo (.inr (10, moF (upd (upd (upd (upd q 0 0) 1 (nI (ns + 1))) 2 (nI (nu + 2))) 5 (nI (no + 1))) AR)) := ⟨_, rfl⟩
              have hw : hW D ah s.heap ah_70 H_68 L_69 := by rw [eah_70, ← mf_16]; exact hw
              have hm_71 : moA dT ah_70 mo AR (upd (upd (upd (upd q 0 0) 1 (nI (ns + 1))) 2 (nI (nu + 2))) 5 (nI (no + 1))) (va_up (va_up (va_up (va_up (va_up (va_up (va_up (va_up g 0 (upd (g 0) ns x)) 1 (upd (g 1) ns (topI OP no))) 2 (upd (g 2) ns (nI (cntP WH (topI OP no) k)))) 3 (upd (g 3) ns (nI np))) 4 (upd (g 4) ns 0)) 5 (upd (g 5) ns (nI nr))) 6 (upd (g 6) ns 0)) 11 (upd (g 11) no (nI ns))) := moA_q hm_66 eah_70
              refine lv_aload_n hx hb dX10_open_203 rfl (lv_at hl 3 rfl) ?_
              refine h_get (ci := 10) (v := .int (nI (no + 1))) (C := RX10) (T := TX10) (N := 26) hx hb hts kl_X10 hown hK hw hm_71.1 rfl 16 (by decide) (hts _ kf_X10_68) rfl (congrArg (fun z => some (Value.int z)) (show (upd (upd (upd (upd q 0 0) 1 (nI (ns + 1))) 2 (nI (nu + 2))) 5 (nI (no + 1))) 5 = nI (no + 1) from upd_e)) dX10_open_204 ?_
              rw [hQ]
              exact h_iret hx hb hr hlk hsz hw (by simp) (by simp) dX10_open_207 (Or.inr (Or.inr (Or.inr ⟨c_10, c_16, by omega, rfl, (upd (upd (upd (upd q 0 0) 1 (nI (ns + 1))) 2 (nI (nu + 2))) 5 (nI (no + 1))), (va_up (va_up (va_up (va_up (va_up (va_up (va_up (va_up g 0 (upd (g 0) ns x)) 1 (upd (g 1) ns (topI OP no))) 2 (upd (g 2) ns (nI (cntP WH (topI OP no) k)))) 3 (upd (g 3) ns (nI np))) 4 (upd (g 4) ns 0)) 5 (upd (g 5) ns (nI nr))) 6 (upd (g 6) ns 0)) 11 (upd (g 11) no (nI ns))), hm_71, ⟨(show (upd (upd (upd (upd q 0 0) 1 (nI (ns + 1))) 2 (nI (nu + 2))) 5 (nI (no + 1))) 1 = nI (ns + 1) from ((upd_n (by decide)).trans ((upd_n (by decide)).trans upd_e))), (show (upd (upd (upd (upd q 0 0) 1 (nI (ns + 1))) 2 (nI (nu + 2))) 5 (nI (no + 1))) 2 = nI (nu + 2) from ((upd_n (by decide)).trans upd_e)), ((show (upd (upd (upd (upd q 0 0) 1 (nI (ns + 1))) 2 (nI (nu + 2))) 5 (nI (no + 1))) 3 = q 3 from ((upd_n (by decide)).trans ((upd_n (by decide)).trans ((upd_n (by decide)).trans (upd_n (by decide)))))).trans hN.2.2.1), ((show (upd (upd (upd (upd q 0 0) 1 (nI (ns + 1))) 2 (nI (nu + 2))) 5 (nI (no + 1))) 4 = q 4 from ((upd_n (by decide)).trans ((upd_n (by decide)).trans ((upd_n (by decide)).trans (upd_n (by decide)))))).trans hN.2.2.2.1), (show (upd (upd (upd (upd q 0 0) 1 (nI (ns + 1))) 2 (nI (nu + 2))) 5 (nI (no + 1))) 5 = nI (no + 1) from upd_e), by omega⟩, (show (upd (upd (upd (upd q 0 0) 1 (nI (ns + 1))) 2 (nI (nu + 2))) 5 (nI (no + 1))) 0 = 0 from ((upd_n (by decide)).trans ((upd_n (by decide)).trans ((upd_n (by decide)).trans upd_e)))), rfl, rfl, (by rw [← show k = ns by omega]; rfl), rfl, rfl, rfl, rfl, rfl, (fun j h7 h14 h11 => by simp only [va_up, if_neg h11, if_neg (show ¬ j = 0 by omega), if_neg (show ¬ j = 1 by omega), if_neg (show ¬ j = 2 by omega), if_neg (show ¬ j = 3 by omega), if_neg (show ¬ j = 4 by omega), if_neg (show ¬ j = 5 by omega), if_neg (show ¬ j = 6 by omega)]), (fun a e9 h1 h2 h3 => by rw [eah_70, hup_n h2, eah_65, hup_n (h3 11 (by decide)), eah_61, hup_n (h3 6 (by decide)), eah_57, hup_n (h3 5 (by decide)), eah_53, hup_n (h3 4 (by decide)), eah_49, hup_n (h3 3 (by decide)), he104, hup_n (h3 2 (by decide)), eah_40, hup_n (h3 1 (by decide)), eah_31, hup_n (h3 0 (by decide)), eah_27, hup_n h2, eah_22, hup_n h2, eah_3, hup_n h2]; exact h1)⟩)))
            · skip
              have c_46 : ¬ (ns ≤ k) := (not_congr (nI_lex (by rfl) (by rfl) (by omega) (by omega))).mp c_46
              refine lv_aload_n hx hb dX10_open_109 rfl (lv_at hl 3 rfl) ?_
              refine h_get (ci := 10) (v := .ref (AR 2)) (C := RX10) (T := TX10) (N := 26) hx hb hts kl_X10 hown hK hw hm104.1 rfl 7 (by decide) (hts _ kf_X10_16) rfl rfl dX10_open_110 ?_
              refine lv_iload_n hx hb dX10_open_113 rfl (lv_at hl 1 rfl) ?_
              refine lv_dup2_11 hx hb dX10_open_114 rfl rfl ?_
              refine h_iald hx hb hK hw (moA_a (n := 2048) (f := upd (g 2) ns (nI (cntP WH (topI OP no) k))) hm104 2 (by decide) rfl rfl) ns rfl (by omega) (by omega) dX10_open_115 ?_
              rw [show (upd (g 2) ns (nI (cntP WH (topI OP no) k))) ns = nI (cntP WH (topI OP no) k) from upd_e]
              refine lv_aload_n hx hb dX10_open_116 rfl (lv_at hl 3 rfl) ?_
              refine h_get (ci := 10) (v := .ref (AR 1)) (C := RX10) (T := TX10) (N := 26) hx hb hts kl_X10 hown hK hw hm104.1 rfl 6 (by decide) (hts _ kf_X10_13) rfl rfl dX10_open_117 ?_
              refine lv_iload_n hx hb dX10_open_120 rfl (lv_at hl 0 rfl) ?_
              refine h_iald hx hb hK hw (moA_a (n := 2048) (f := (upd (g 1) ns (topI OP no))) hm104 1 (by decide) rfl rfl) k rfl (by omega) (by omega) dX10_open_121 ?_
              rw [show (upd (g 1) ns (topI OP no)) k = WH k from ((upd_n (by omega)).trans (hS.2 _ (by omega)).2.1)]
              refine lv_aload_n hx hb dX10_open_122 rfl (lv_at hl 3 rfl) ?_
              refine h_callV (n := 0) (ci := 10) (b := mo) (As := []) (rest := [.int (WH k), .int (nI (cntP WH (topI OP no) k)), .int (nI ns), .ref (AR 2)]) ⟨hx, hb, hml, hown, hts⟩ hK hw (c_X10_top l D dT ah104 H104.size mo AR (upd (upd (upd q 0 0) 1 (nI (ns + 1))) 2 (nI (nu + 2))) (va_up (va_up (va_up g 0 (upd (g 0) ns x)) 1 (upd (g 1) ns (topI OP no))) 2 (upd (g 2) ns (nI (cntP WH (topI OP no) k)))) hm104 OP no ⟨((show (upd (upd (upd q 0 0) 1 (nI (ns + 1))) 2 (nI (nu + 2))) 5 = q 5 from ((upd_n (by decide)).trans ((upd_n (by decide)).trans (upd_n (by decide))))).trans hN.2.2.2.2.1), hN.2.2.2.2.2.2.2.2.1, fun j hj => (hOQ j hj).1⟩) ko_X10_top km_X10_74 ki_X10_top ks_X10_top kn_X10 (by decide +kernel) rfl hm104.1 rfl hl.1 rfl (by simp [Value.category]) dX10_open_123 (by rw [hR]; exact ⟨rfl, rfl, Nat.le_of_ble_eq_true rfl, Nat.le_of_ble_eq_true rfl, by simp, by simp⟩) (fun r_72 ah_73 H_74 L_75 st_76 hp hw hst => ?_)
              obtain ⟨rfl, rfl⟩ := hp
              have hst : st_76 = [.int (topI OP no), .int (WH k), .int (nI (cntP WH (topI OP no) k)), .int (nI ns), .ref (AR 2)] := hst
              subst hst
              have J_87 : ∀ (v_86 : Int32) (ls : Array Slot) (H_84 : Heap) (L_85 : List Loc), lv_has ls 4 [(3, .int (nI k)), (2, .int (nI ns)), (1, .int x), (0, .ref mo)] → hW D ah s.heap ah104 H_84 L_85 → v_86 = (if WH k = topI OP no then (if topI OP no < 0 then 0 else 1) else 0) → W p l e R s m args below meth c H_84 L_85 (0) (0) Q (F0 m 141 ls [.int v_86, .int (nI (cntP WH (topI OP no) k)), .int (nI ns), .ref (AR 2)]) := by
                intro v_86 ls H_84 L_85 hl hw ev_86
                have hv9 : v_86 = nI (pcN WH (topI OP no) k) := ev_86.trans pcN_e
                subst hv9
                refine lv_iadd hx hb dX10_open_141 ?_
                refine lv_topi (fun t_88 et_88 => ?_)
                obtain rfl : t_88 = nI (cntP WH (topI OP no) k + pcN WH (topI OP no) k) := et_88.trans (nI_add _ _)
                refine h_iast hx hb hK hw (moA_a (n := 2048) (f := upd (g 2) ns (nI (cntP WH (topI OP no) k))) hm104 2 (by decide) rfl rfl) ns rfl (by omega) (by omega) dX10_open_142 (fun H_89 L_90 hw => ?_)
                obtain ⟨ah_91, eah_91⟩ : ∃ z9 : hA, z9 = hup ah104 (AR 2) (.inl (dT 0, 2048, .inl (upd (upd (g 2) ns (nI (cntP WH (topI OP no) k))) ns (nI (cntP WH (topI OP no) k + pcN WH (topI OP no) k))))) := ⟨_, rfl⟩
                have hw : hW D ah s.heap ah_91 H_89 L_90 := by rw [eah_91]; exact hw
                have hm_92 : moA dT ah_91 mo AR (upd (upd (upd q 0 0) 1 (nI (ns + 1))) 2 (nI (nu + 2))) (va_up (va_up (va_up (va_up g 0 (upd (g 0) ns x)) 1 (upd (g 1) ns (topI OP no))) 2 (upd (g 2) ns (nI (cntP WH (topI OP no) k)))) 2 (upd (upd (g 2) ns (nI (cntP WH (topI OP no) k))) ns (nI (cntP WH (topI OP no) k + pcN WH (topI OP no) k)))) := moA_g hm104 2 (by decide) eah_91
                refine lv_iinc (v := nI (k + 1)) (lv' := [(3, .int (nI (k + 1))), (2, .int (nI ns)), (1, .int x), (0, .ref mo)]) hx hb dX10_open_143 hl (k := 0) rfl (nI_c _ 1) (by decide) rfl (fun ls hl => ?_)
                refine lv_goto (tgt := 104) hx hb dX10_open_146 (by decide) ?_
                exact ih104 (k + 1) ah_91 ls _ _ (by omega) (by omega) (by rw [eah_91, he104, hup_hup, upd_s]; rfl) (lv_sub hl [0, 1, 2, 3] rfl) hw
              refine lv_icmp_ne (tgt := 140) hx hb dX10_open_126 (by decide) (fun c_77 => ?_) (fun c_77 => ?_)
              · skip
                refine lv_iconst (v := 0) hx hb dX10_open_140 (by decide) ?_
                exact J_87 0 ls _ _ (lv_sub hl [0, 1, 2, 3] rfl) hw (by rw [if_neg c_77])
              · skip
                refine lv_aload_n hx hb dX10_open_129 rfl (lv_at hl 3 rfl) ?_
                refine h_callV (n := 0) (ci := 10) (b := mo) (As := []) (rest := [.int (nI (cntP WH (topI OP no) k)), .int (nI ns), .ref (AR 2)]) ⟨hx, hb, hml, hown, hts⟩ hK hw (c_X10_top l D dT ah104 H_74.size mo AR (upd (upd (upd q 0 0) 1 (nI (ns + 1))) 2 (nI (nu + 2))) (va_up (va_up (va_up g 0 (upd (g 0) ns x)) 1 (upd (g 1) ns (topI OP no))) 2 (upd (g 2) ns (nI (cntP WH (topI OP no) k)))) hm104 OP no ⟨((show (upd (upd (upd q 0 0) 1 (nI (ns + 1))) 2 (nI (nu + 2))) 5 = q 5 from ((upd_n (by decide)).trans ((upd_n (by decide)).trans (upd_n (by decide))))).trans hN.2.2.2.2.1), hN.2.2.2.2.2.2.2.2.1, fun j hj => (hOQ j hj).1⟩) ko_X10_top km_X10_74 ki_X10_top ks_X10_top kn_X10 (by decide +kernel) rfl hm104.1 rfl hl.1 rfl (by simp [Value.category]) dX10_open_130 (by rw [hR]; exact ⟨rfl, rfl, Nat.le_of_ble_eq_true rfl, Nat.le_of_ble_eq_true rfl, by simp, by simp⟩) (fun r_78 ah_79 H_80 L_81 st_82 hp hw hst => ?_)
                obtain ⟨rfl, rfl⟩ := hp
                have hst : st_82 = [.int (topI OP no), .int (nI (cntP WH (topI OP no) k)), .int (nI ns), .ref (AR 2)] := hst
                subst hst
                refine lv_if_lt (tgt := 140) hx hb dX10_open_133 (by decide) (fun c_83 => ?_) (fun c_83 => ?_)
                · skip
                  refine lv_iconst (v := 0) hx hb dX10_open_140 (by decide) ?_
                  exact J_87 0 ls _ _ (lv_sub hl [0, 1, 2, 3] rfl) hw (by rw [if_pos c_77, if_pos c_83])
                · skip
                  refine lv_iconst (v := 1) hx hb dX10_open_136 (by decide) ?_
                  refine lv_goto (tgt := 141) hx hb dX10_open_137 (by decide) ?_
                  exact J_87 1 ls _ _ (lv_sub hl [0, 1, 2, 3] rfl) hw (by rw [if_pos c_77, if_neg c_83])
        exact LP104 ((ns - 0) + 1) 0 ah_44 ls _ _ (Nat.lt_succ_self _) (by omega) eah_44 (lv_sub hl [0, 1, 3, 2] rfl) hw
      · skip
        have c_18 : ¬ (nu + 2 ≤ 4096) := (not_congr (nI_lex (by rfl) (by decide) (by omega) (by omega))).mp c_18
        refine lv_aload_n hx hb dX10_open_47 rfl (lv_at hl 0 rfl) ?_
        refine lv_iconst (v := 3) hx hb dX10_open_48 (by decide) ?_
        refine h_callV (n := 1) (ci := 10) (b := mo) (As := [.int 3]) (rest := []) ⟨hx, hb, hml, hown, hts⟩ hK hw (c_X10_fail l D dT ah_3 H_13.size mo AR (upd q 0 0) g hm_4 3) ko_X10_fail km_X10_82 ki_X10_fail ks_X10_fail kn_X10 (by decide +kernel) rfl hm_4.1 rfl hl.1 rfl (by simp [Value.category]) dX10_open_49 (by rw [hR]; exact ⟨rfl, rfl, Nat.le_of_ble_eq_true rfl, Nat.le_of_ble_eq_true rfl, by simp, by simp⟩) (fun r_94 ah_95 H_96 L_97 st_98 hp hw hst => ?_)
        obtain ⟨rfl, eah_95⟩ := hp
        rw [show (upd (upd q 0 0) 0 3) = (upd q 0 3) from upd_s] at eah_95
        have hm_99 : moA dT ah_95 mo AR (upd q 0 3) g := moA_q hm_4 eah_95
        have hst : st_98 = [.int 0] := hst
        subst hst
        rw [hQ]
        exact h_iret hx hb hr hlk hsz hw (by simp) (by simp) dX10_open_52 (Or.inr (Or.inr (Or.inl ⟨c_10, c_16, by omega, rfl, (by subst_vars; simp only [hup_hup, upd_s])⟩)))
    · skip
      have c_16 : mTake KD OP ns no x = false := bI_0.mp c_16
      refine lv_aload_n hx hb dX10_open_29 rfl (lv_at hl 0 rfl) ?_
      refine lv_iconst (v := 2) hx hb dX10_open_30 (by decide) ?_
      refine h_callV (n := 1) (ci := 10) (b := mo) (As := [.int 2]) (rest := []) ⟨hx, hb, hml, hown, hts⟩ hK hw (c_X10_fail l D dT ah_3 H_13.size mo AR (upd q 0 0) g hm_4 2) ko_X10_fail km_X10_82 ki_X10_fail ks_X10_fail kn_X10 (by decide +kernel) rfl hm_4.1 rfl hl.1 rfl (by simp [Value.category]) dX10_open_31 (by rw [hR]; exact ⟨rfl, rfl, Nat.le_of_ble_eq_true rfl, Nat.le_of_ble_eq_true rfl, by simp, by simp⟩) (fun r_100 ah_101 H_102 L_103 st_104 hp hw hst => ?_)
      obtain ⟨rfl, eah_101⟩ := hp
      rw [show (upd (upd q 0 0) 0 2) = (upd q 0 2) from upd_s] at eah_101
      have hm_105 : moA dT ah_101 mo AR (upd q 0 2) g := moA_q hm_4 eah_101
      have hst : st_104 = [.int 0] := hst
      subst hst
      rw [hQ]
      exact h_iret hx hb hr hlk hsz hw (by simp) (by simp) dX10_open_34 (Or.inr (Or.inl ⟨c_10, c_16, rfl, (by subst_vars; simp only [hup_hup, upd_s])⟩))
  · skip
    have c_10 : wiB x 1 7 = false := bI_0.mp c_10
    refine lv_aload_n hx hb dX10_open_15 rfl (lv_at hl 0 rfl) ?_
    refine lv_iconst (v := 1) hx hb dX10_open_16 (by decide) ?_
    refine h_callV (n := 1) (ci := 10) (b := mo) (As := [.int 1]) (rest := []) ⟨hx, hb, hml, hown, hts⟩ hK hw (c_X10_fail l D dT ah_3 H_7.size mo AR (upd q 0 0) g hm_4 1) ko_X10_fail km_X10_82 ki_X10_fail ks_X10_fail kn_X10 (by decide +kernel) rfl hm_4.1 rfl hl.1 rfl (by simp [Value.category]) dX10_open_17 (by rw [hR]; exact ⟨rfl, rfl, Nat.le_of_ble_eq_true rfl, Nat.le_of_ble_eq_true rfl, by simp, by simp⟩) (fun r_106 ah_107 H_108 L_109 st_110 hp hw hst => ?_)
    obtain ⟨rfl, eah_107⟩ := hp
    rw [show (upd (upd q 0 0) 0 1) = (upd q 0 1) from upd_s] at eah_107
    have hm_111 : moA dT ah_107 mo AR (upd q 0 1) g := moA_q hm_4 eah_107
    have hst : st_110 = [.int 0] := hst
    subst hst
    rw [hQ]
    exact h_iret hx hb hr hlk hsz hw (by simp) (by simp) dX10_open_20 (Or.inl ⟨c_10, rfl, (by subst_vars; simp only [hup_hup, upd_s])⟩)

set_option maxHeartbeats 4000000 in
set_option maxRecDepth 100000 in
theorem c_X10_judge (l : Launch) (D : va_G) (dT : Nat → ClassId) (ah : hA) (sz : Nat) (mo : Nat) (AR : Nat → Nat) (q : Nat → Int32) (g : Nat → Nat → Int32) (hm : moA dT ah mo AR q g) (np : Nat) (X Y : Nat → Int32) (hX : moX np g X Y) (nr : Nat) (RP RN : Nat → Nat) (hRg : moR np nr g RP RN) (ns : Nat) (FG RC PF PC : Nat → Nat) (KD WH PA : Nat → Int32) (hS : moS ns np nr g FG RC PF PC KD WH PA) (p0 : Nat → Int32) (hp0 : g 12 = p0) (pl : Nat → Int32) (hpl9 : pl = fillF p0 (-1) 7) (no : Nat) (hns : q 1 = nI ns) (hno : q 5 = nI no ∧ no ≤ 50) : hMet l yX10_judge cX10_judge 3 (some .int) ({ frames := 9, cells := 0, slots := 0, locals := 224 }) D dT [.ref mo] ah sz (fun r ah2 => ((ns = 0 ∨ 0 < no) ∧ r = some (.int 0) ∧ ah2 = hup ah mo (.inr (10, moF (upd q 0 1) AR))) ∨ ((¬ ns = 0 ∧ no = 0) ∧ moO dT ah ah2 mo AR (upd q 0 0) g pl (firstO ns (jgS X Y RP RN ns FG RC PF PC KD WH PA pl)) r)) 0 0 := by
  refine h_met (by decide) (Nat.le_of_ble_eq_true rfl) ?_
  intro p e s m below meth c ls R Q args hav hR hQ hB hl hsz hw
  obtain ⟨hx, hb, hml, hr, hts, hown, hlk, hin, hK⟩ := hB
  have hown : s.vm.findClass RX10 = some m.cls := hown
  have hl : lv_has ls 3 [(0, .ref mo)] := hl
  have hnp := hX.1
  have hnr := hRg.1
  have hns9 := hS.1
  have hX0 := hX
  have hRg0 := hRg
  have hS0 := hS
  refine lv_aload_n hx hb dX10_judge_0 rfl (lv_at hl 0 rfl) ?_
  refine lv_iconst (v := 0) hx hb dX10_judge_1 (by decide) ?_
  refine h_put (ci := 10) (v := .int 0) (C := RX10) (T := TX10) (N := 26) hx hb hts kl_X10 tyX10 tyX10_ok nmX10 hown hK hw hm.1 rfl 0 (by decide) (hts _ kf_X10_52) rfl rfl (tyX10_ok 0 (by decide)) rfl rfl (Nat.le_of_ble_eq_true rfl) dX10_judge_2 (fun H_1 L_2 hw => ?_)
  obtain ⟨ah_3, eah_3⟩ : ∃ z9 : hA, z9 = hup ah mo (.inr (10, moF (upd q 0 0) AR)) := ⟨_, rfl⟩
  have hw : hW D ah s.heap ah_3 H_1 L_2 := by rw [eah_3, ← mf_0]; exact hw
  have hm_4 : moA dT ah_3 mo AR (upd q 0 0) g := moA_q hm eah_3
  have hJ0 : moK dT ah ah_3 mo AR (upd q 0 0) g (upd q 0 0) g := moK_0 hm eah_3
  have hns : (upd q 0 0) 1 = nI ns := hns
  have hno5 := hno.2
  refine lv_aload_n hx hb dX10_judge_5 rfl (lv_at hl 0 rfl) ?_
  refine h_get (ci := 10) (v := .int (q 1)) (C := RX10) (T := TX10) (N := 26) hx hb hts kl_X10 hown hK hw hm_4.1 rfl 1 (by decide) (hts _ kf_X10_59) rfl (congrArg (fun z => some (Value.int z)) (show (upd q 0 0) 1 = q 1 from (upd_n (by decide)))) dX10_judge_6 ?_
  rw [show q 1 = nI ns from ((hJ0.2.1 1 (by decide)).trans hns)]
  refine lv_if_eq (tgt := 19) hx hb dX10_judge_9 (by decide) (fun c_5 => ?_) (fun c_5 => ?_)
  · skip
    have c_5 : ns = 0 := (nI_eqx (by rfl) (by decide) (by omega) (by omega)).mp c_5
    refine lv_aload_n hx hb dX10_judge_19 rfl (lv_at hl 0 rfl) ?_
    refine lv_iconst (v := 1) hx hb dX10_judge_20 (by decide) ?_
    refine h_callV (n := 1) (ci := 10) (b := mo) (As := [.int 1]) (rest := []) ⟨hx, hb, hml, hown, hts⟩ hK hw (c_X10_fail l D dT ah_3 H_1.size mo AR (upd q 0 0) g hm_4 1) ko_X10_fail km_X10_82 ki_X10_fail ks_X10_fail kn_X10 (by decide +kernel) rfl hm_4.1 rfl hl.1 rfl (by simp [Value.category]) dX10_judge_21 (by rw [hR]; exact ⟨rfl, rfl, Nat.le_of_ble_eq_true rfl, Nat.le_of_ble_eq_true rfl, by simp, by simp⟩) (fun r_6 ah_7 H_8 L_9 st_10 hp hw hst => ?_)
    obtain ⟨rfl, eah_7⟩ := hp
    rw [show (upd (upd q 0 0) 0 1) = (upd q 0 1) from upd_s] at eah_7
    have hm_11 : moA dT ah_7 mo AR (upd q 0 1) g := moA_q hm_4 eah_7
    have hst : st_10 = [.int 0] := hst
    subst hst
    rw [hQ]
    exact h_iret hx hb hr hlk hsz hw (by simp) (by simp) dX10_judge_24 (Or.inl ⟨Or.inl c_5, rfl, (by subst_vars; simp only [hup_hup, upd_s])⟩)
  · skip
    have c_5 : ¬ (ns = 0) := (not_congr (nI_eqx (by rfl) (by decide) (by omega) (by omega))).mp c_5
    refine lv_aload_n hx hb dX10_judge_12 rfl (lv_at hl 0 rfl) ?_
    refine h_get (ci := 10) (v := .int (q 5)) (C := RX10) (T := TX10) (N := 26) hx hb hts kl_X10 hown hK hw hm_4.1 rfl 16 (by decide) (hts _ kf_X10_68) rfl (congrArg (fun z => some (Value.int z)) (show (upd q 0 0) 5 = q 5 from (upd_n (by decide)))) dX10_judge_13 ?_
    rw [show q 5 = nI no from hno.1]
    refine lv_if_le (tgt := 25) hx hb dX10_judge_16 (by decide) (fun c_12 => ?_) (fun c_12 => ?_)
    · skip
      have c_12 : no ≤ 0 := (nI_lex (by rfl) (by decide) (by omega) (by omega)).mp c_12
      refine lv_aload_n hx hb dX10_judge_25 rfl (lv_at hl 0 rfl) ?_
      refine h_callV (n := 0) (ci := 10) (b := mo) (As := []) (rest := []) ⟨hx, hb, hml, hown, hts⟩ hK hw (c_X10_noPlace l D dT ah_3 H_1.size mo AR (upd q 0 0) g hm_4 p0 hp0) ko_X10_noPlace km_X10_71 ki_X10_noPlace ks_X10_noPlace kn_X10 (by decide +kernel) rfl hm_4.1 rfl hl.1 rfl (by simp [Value.category]) dX10_judge_26 (by rw [hR]; exact ⟨rfl, rfl, Nat.le_of_ble_eq_true rfl, Nat.le_of_ble_eq_true rfl, by simp, by simp⟩) (fun r_13 ah_14 H_15 L_16 st_17 hp hw hst => ?_)
      obtain ⟨rfl, eah_14⟩ := hp
      have hJ_19 : moK dT ah ah_14 mo AR (upd q 0 0) g (upd q 0 0) (va_up g 12 (fillF p0 (-1) 7)) := moK_g hJ0 12 (by decide) eah_14
      have hst : st_17 = [] := hst
      subst hst
      refine lv_iconst (v := 0) hx hb dX10_judge_29 (by decide) ?_
      refine lv_istore_n (lv' := [(1, .int 0), (0, .ref mo)]) hx hb dX10_judge_30 rfl hl (by decide) rfl (fun ls hl => ?_)
      have LP31 : ∀ (k31 : Nat) (u9 : Nat) (q31 : Nat → Int32) (g31 : Nat → Nat → Int32) (ah31 : hA) (ls : Array Slot) (H31 : Heap) (L31 : List Loc), (ns - u9 < k31) → (moK dT ah ah31 mo AR (upd q 0 0) g q31 g31) → (g31 12 = pl) → (u9 ≤ ns) → (∀ j, j < u9 → jgS X Y RP RN ns FG RC PF PC KD WH PA pl j = none) → lv_has ls 3 [(1, .int (nI u9)), (0, .ref mo)] → hW D ah s.heap ah31 H31 L31 → W p l e R s m args below meth c H31 L31 (0 + 0) (0 + 0) Q (F0 m 31 ls []) := by
        intro k31
        induction k31 with
        | zero => intro u9 q31 g31 ah31 ls H31 L31 hk; exact absurd hk (Nat.not_lt_zero _)
        | succ k31 ih31 =>
          intro u9 q31 g31 ah31 ls H31 L31 hk31 hJ31 hpl31 hu31 hp31 hl hw
          have hX := moX_k hJ31 hX0
          have hRg := moR_k hJ31 hRg0
          have hS := moS_k hJ31 hS0
          have hPF : u9 < ns → PF u9 + PC u9 ≤ np := fun h9 => (hS.2 u9 h9).2.2.2.2.2.2.2.1
          refine lv_iload_n hx hb dX10_judge_31 rfl (lv_at hl 0 rfl) ?_
          refine lv_aload_n hx hb dX10_judge_32 rfl (lv_at hl 1 rfl) ?_
          refine h_get (ci := 10) (v := .int (q31 1)) (C := RX10) (T := TX10) (N := 26) hx hb hts kl_X10 hown hK hw hJ31.1.1 rfl 1 (by decide) (hts _ kf_X10_59) rfl rfl dX10_judge_33 ?_
          rw [show q31 1 = nI ns from ((hJ31.2.1 1 (by decide)).trans hns)]
          refine lv_icmp_ge (tgt := 137) hx hb dX10_judge_36 (by decide) (fun c_20 => ?_) (fun c_20 => ?_)
          · skip
            have c_20 : ns ≤ u9 := (nI_lex (by rfl) (by rfl) (by omega) (by omega)).mp c_20
            refine lv_iconst (v := 0) hx hb dX10_judge_137 (by decide) ?_
            rw [hQ]
            exact h_iret hx hb hr hlk hsz hw (by simp) (by simp) dX10_judge_138 (Or.inr ⟨⟨by omega, by omega⟩, ⟨_, q31, g31, rfl, hJ31, (by rw [show firstO ns (jgS X Y RP RN ns FG RC PF PC KD WH PA pl) = none from firstO_none (fun j hj => hp31 j (by omega))]; exact ⟨rfl, hpl31⟩)⟩⟩)
          · skip
            have c_20 : ¬ (ns ≤ u9) := (not_congr (nI_lex (by rfl) (by rfl) (by omega) (by omega))).mp c_20
            refine lv_iconst (v := 0) hx hb dX10_judge_39 (by decide) ?_
            refine lv_istore_n (lv' := [(2, .int 0), (1, .int (nI u9)), (0, .ref mo)]) hx hb dX10_judge_40 rfl hl (by decide) rfl (fun ls hl => ?_)
            refine lv_aload_n hx hb dX10_judge_41 rfl (lv_at hl 2 rfl) ?_
            refine h_get (ci := 10) (v := .ref (AR 0)) (C := RX10) (T := TX10) (N := 26) hx hb hts kl_X10 hown hK hw hJ31.1.1 rfl 5 (by decide) (hts _ kf_X10_7) rfl rfl dX10_judge_42 ?_
            refine lv_iload_n hx hb dX10_judge_45 rfl (lv_at hl 1 rfl) ?_
            refine h_iald hx hb hK hw (moA_a (n := 2048) (f := g31 0) hJ31.1 0 (by decide) rfl rfl) u9 rfl (by omega) (by omega) dX10_judge_46 ?_
            rw [show (g31 0) u9 = KD u9 from (hS.2 _ (by omega)).1]
            refine lv_iconst (v := 2) hx hb dX10_judge_47 (by decide) ?_
            refine lv_icmp_ne (tgt := 90) hx hb dX10_judge_48 (by decide) (fun c_21 => ?_) (fun c_21 => ?_)
            · skip
              refine lv_aload_n hx hb dX10_judge_90 rfl (lv_at hl 2 rfl) ?_
              refine h_get (ci := 10) (v := .ref (AR 0)) (C := RX10) (T := TX10) (N := 26) hx hb hts kl_X10 hown hK hw hJ31.1.1 rfl 5 (by decide) (hts _ kf_X10_7) rfl rfl dX10_judge_91 ?_
              refine lv_iload_n hx hb dX10_judge_94 rfl (lv_at hl 1 rfl) ?_
              refine h_iald hx hb hK hw (moA_a (n := 2048) (f := g31 0) hJ31.1 0 (by decide) rfl rfl) u9 rfl (by omega) (by omega) dX10_judge_95 ?_
              rw [show (g31 0) u9 = KD u9 from (hS.2 _ (by omega)).1]
              refine lv_iconst (v := 3) hx hb dX10_judge_96 (by decide) ?_
              refine lv_icmp_ne (tgt := 108) hx hb dX10_judge_97 (by decide) (fun c_22 => ?_) (fun c_22 => ?_)
              · skip
                refine lv_aload_n hx hb dX10_judge_108 rfl (lv_at hl 2 rfl) ?_
                refine h_get (ci := 10) (v := .ref (AR 0)) (C := RX10) (T := TX10) (N := 26) hx hb hts kl_X10 hown hK hw hJ31.1.1 rfl 5 (by decide) (hts _ kf_X10_7) rfl rfl dX10_judge_109 ?_
                refine lv_iload_n hx hb dX10_judge_112 rfl (lv_at hl 1 rfl) ?_
                refine h_iald hx hb hK hw (moA_a (n := 2048) (f := g31 0) hJ31.1 0 (by decide) rfl rfl) u9 rfl (by omega) (by omega) dX10_judge_113 ?_
                rw [show (g31 0) u9 = KD u9 from (hS.2 _ (by omega)).1]
                refine lv_bipush (v := 6) hx hb dX10_judge_114 (by decide) ?_
                refine lv_icmp_ne (tgt := 125) hx hb dX10_judge_116 (by decide) (fun c_23 => ?_) (fun c_23 => ?_)
                · skip
                  refine lv_iload_n hx hb dX10_judge_125 rfl (lv_at hl 0 rfl) ?_
                  refine lv_if_le (tgt := 131) hx hb dX10_judge_126 (by decide) (fun c_24 => ?_) (fun c_24 => ?_)
                  · skip
                    refine lv_iinc (v := nI (u9 + 1)) (lv' := [(1, .int (nI (u9 + 1))), (2, .int 0), (0, .ref mo)]) hx hb dX10_judge_131 hl (k := 1) rfl (nI_c _ 1) (by decide) rfl (fun ls hl => ?_)
                    refine lv_goto (tgt := 31) hx hb dX10_judge_134 (by decide) ?_
                    exact ih31 (u9 + 1) q31 g31 ah31 ls _ _ (by omega) hJ31 hpl31 (by omega) (lt_o hp31 (jgS_0 c_21 c_22 c_23)) (lv_sub hl [0, 2] rfl) hw
                  · exact absurd c_24 (by decide)
                · skip
                  refine lv_aload_n hx hb dX10_judge_119 rfl (lv_at hl 2 rfl) ?_
                  refine lv_iload_n hx hb dX10_judge_120 rfl (lv_at hl 1 rfl) ?_
                  refine h_callV (n := 1) (ci := 10) (b := mo) (As := [.int (nI u9)]) (rest := []) ⟨hx, hb, hml, hown, hts⟩ hK hw (c_X10_polygons l D dT ah31 H31.size mo AR q31 g31 hJ31.1 np X Y hX nr RP RN hRg ns FG RC PF PC KD WH PA hS pl hpl31 ((hJ31.2.1 1 (by decide)).trans hns) u9 (by omega)) ko_X10_polygons km_X10_229 ki_X10_polygons ks_X10_polygons kn_X10 (by decide +kernel) rfl hJ31.1.1 rfl hl.1 rfl (by simp [Value.category]) dX10_judge_121 (by rw [hR]; exact ⟨rfl, rfl, Nat.le_of_ble_eq_true rfl, Nat.le_of_ble_eq_true rfl, by simp, by simp⟩) (fun r_26 ah_27 H_28 L_29 st_30 hp hw hst => ?_)
                  obtain ⟨v_31, q_32, g_33, rfl, hJv_31, hRv_31⟩ := hp
                  have hJ_34 : moK dT ah ah_27 mo AR (upd q 0 0) g q_32 g_33 := moK_t hJ31 hJv_31
                  have hX := moX_k hJv_31 hX
                  have hRg := moR_k hJv_31 hRg
                  have hS := moS_k hJv_31 hS
                  have hst : st_30 = [.int v_31] := hst
                  subst hst
                  refine lv_istore_n (lv' := [(2, .int v_31), (1, .int (nI u9)), (0, .ref mo)]) hx hb dX10_judge_124 rfl hl (by decide) rfl (fun ls hl => ?_)
                  refine lv_iload_n hx hb dX10_judge_125 rfl (lv_at hl 0 rfl) ?_
                  refine lv_if_le (tgt := 131) hx hb dX10_judge_126 (by decide) (fun c_35 => ?_) (fun c_35 => ?_)
                  · skip
                    have hz_31 := moRs_z hRv_31 c_35
                    refine lv_iinc (v := nI (u9 + 1)) (lv' := [(1, .int (nI (u9 + 1))), (2, .int v_31), (0, .ref mo)]) hx hb dX10_judge_131 hl (k := 1) rfl (nI_c _ 1) (by decide) rfl (fun ls hl => ?_)
                    refine lv_goto (tgt := 31) hx hb dX10_judge_134 (by decide) ?_
                    refine W.widen (k := 0 + 0) (n := 0 + 0) (by omega) (by omega) ?_
                    exact ih31 (u9 + 1) q_32 g_33 ah_27 ls _ _ (by omega) hJ_34 hz_31.2 (by omega) (lt_o hp31 ((jgS_6 c_23).trans hz_31.1)) (lv_sub hl [0, 2] rfl) hw
                  · skip
                    refine lv_iload_n hx hb dX10_judge_129 rfl (lv_at hl 0 rfl) ?_
                    rw [hQ]
                    exact h_iret hx hb hr hlk hsz hw (by simp) (by simp) dX10_judge_130 (Or.inr ⟨⟨by omega, by omega⟩, ⟨_, q_32, g_33, rfl, hJ_34, (by obtain ⟨hq1, hq2⟩ := moRs_p hRv_31 c_35; rw [show firstO ns (jgS X Y RP RN ns FG RC PF PC KD WH PA pl) = some (v_31, g_33 12) from firstO_some (i := u9) (by omega) ((jgS_6 c_23).trans hq1) hp31]; exact ⟨rfl, hq2, rfl⟩)⟩⟩)
              · skip
                refine lv_aload_n hx hb dX10_judge_100 rfl (lv_at hl 2 rfl) ?_
                refine lv_iload_n hx hb dX10_judge_101 rfl (lv_at hl 1 rfl) ?_
                refine lv_iload_n hx hb dX10_judge_102 rfl (lv_at hl 1 rfl) ?_
                refine lv_iconst (v := 0) hx hb dX10_judge_103 (by decide) ?_
                refine h_callV (n := 3) (ci := 10) (b := mo) (As := [.int (nI u9), .int (nI u9), .int 0]) (rest := []) ⟨hx, hb, hml, hown, hts⟩ hK hw (c_X10_polygon l D dT ah31 H31.size mo AR q31 g31 hJ31.1 np X Y hX nr RP RN hRg ns FG RC PF PC KD WH PA hS pl hpl31 u9 (by omega) (nI u9) 0) ko_X10_polygon km_X10_220 ki_X10_polygon ks_X10_polygon kn_X10 (by decide +kernel) rfl hJ31.1.1 rfl hl.1 rfl (by simp [Value.category]) dX10_judge_104 (by rw [hR]; exact ⟨rfl, rfl, Nat.le_of_ble_eq_true rfl, Nat.le_of_ble_eq_true rfl, by simp, by simp⟩) (fun r_37 ah_38 H_39 L_40 st_41 hp hw hst => ?_)
                obtain ⟨v_42, q_43, g_44, rfl, hJv_42, hRv_42⟩ := hp
                have hJ_45 : moK dT ah ah_38 mo AR (upd q 0 0) g q_43 g_44 := moK_t hJ31 hJv_42
                have hX := moX_k hJv_42 hX
                have hRg := moR_k hJv_42 hRg
                have hS := moS_k hJv_42 hS
                have hst : st_41 = [.int v_42] := hst
                subst hst
                refine lv_istore_n (lv' := [(2, .int v_42), (1, .int (nI u9)), (0, .ref mo)]) hx hb dX10_judge_107 rfl hl (by decide) rfl (fun ls hl => ?_)
                refine lv_aload_n hx hb dX10_judge_108 rfl (lv_at hl 2 rfl) ?_
                refine h_get (ci := 10) (v := .ref (AR 0)) (C := RX10) (T := TX10) (N := 26) hx hb hts kl_X10 hown hK hw hJ_45.1.1 rfl 5 (by decide) (hts _ kf_X10_7) rfl rfl dX10_judge_109 ?_
                refine lv_iload_n hx hb dX10_judge_112 rfl (lv_at hl 1 rfl) ?_
                refine h_iald hx hb hK hw (moA_a (n := 2048) (f := g_44 0) hJ_45.1 0 (by decide) rfl rfl) u9 rfl (by omega) (by omega) dX10_judge_113 ?_
                rw [show (g_44 0) u9 = KD u9 from (hS.2 _ (by omega)).1]
                refine lv_bipush (v := 6) hx hb dX10_judge_114 (by decide) ?_
                refine lv_icmp_ne (tgt := 125) hx hb dX10_judge_116 (by decide) (fun c_46 => ?_) (fun c_46 => ?_)
                · skip
                  refine lv_iload_n hx hb dX10_judge_125 rfl (lv_at hl 0 rfl) ?_
                  refine lv_if_le (tgt := 131) hx hb dX10_judge_126 (by decide) (fun c_47 => ?_) (fun c_47 => ?_)
                  · skip
                    have hz_31 := moRs_z hRv_42 c_47
                    refine lv_iinc (v := nI (u9 + 1)) (lv' := [(1, .int (nI (u9 + 1))), (2, .int v_42), (0, .ref mo)]) hx hb dX10_judge_131 hl (k := 1) rfl (nI_c _ 1) (by decide) rfl (fun ls hl => ?_)
                    refine lv_goto (tgt := 31) hx hb dX10_judge_134 (by decide) ?_
                    refine W.widen (k := 0 + 0) (n := 0 + 0) (by omega) (by omega) ?_
                    exact ih31 (u9 + 1) q_43 g_44 ah_38 ls _ _ (by omega) hJ_45 hz_31.2 (by omega) (lt_o hp31 ((jgS_3 c_22).trans hz_31.1)) (lv_sub hl [0, 2] rfl) hw
                  · skip
                    refine lv_iload_n hx hb dX10_judge_129 rfl (lv_at hl 0 rfl) ?_
                    rw [hQ]
                    exact h_iret hx hb hr hlk hsz hw (by simp) (by simp) dX10_judge_130 (Or.inr ⟨⟨by omega, by omega⟩, ⟨_, q_43, g_44, rfl, hJ_45, (by obtain ⟨hq1, hq2⟩ := moRs_p hRv_42 c_47; rw [show firstO ns (jgS X Y RP RN ns FG RC PF PC KD WH PA pl) = some (v_42, g_44 12) from firstO_some (i := u9) (by omega) ((jgS_3 c_22).trans hq1) hp31]; exact ⟨rfl, hq2, rfl⟩)⟩⟩)
                · skip
                  exfalso
                  (rw [c_22] at c_46; exact absurd c_46 (by decide))
            · skip
              refine lv_aload_n hx hb dX10_judge_51 rfl (lv_at hl 2 rfl) ?_
              refine h_get (ci := 10) (v := .ref (AR 4)) (C := RX10) (T := TX10) (N := 26) hx hb hts kl_X10 hown hK hw hJ31.1.1 rfl 9 (by decide) (hts _ kf_X10_22) rfl rfl dX10_judge_52 ?_
              refine lv_iload_n hx hb dX10_judge_55 rfl (lv_at hl 1 rfl) ?_
              refine h_iald hx hb hK hw (moA_a (n := 2048) (f := g31 4) hJ31.1 4 (by decide) rfl rfl) u9 rfl (by omega) (by omega) dX10_judge_56 ?_
              rw [show (g31 4) u9 = nI (PC u9) from (hS.2 _ (by omega)).2.2.2.2.1]
              refine lv_if_le (tgt := 90) hx hb dX10_judge_57 (by decide) (fun c_49 => ?_) (fun c_49 => ?_)
              · skip
                have c_49 : PC u9 ≤ 0 := (nI_lex (by rfl) (by decide) (by omega) (by omega)).mp c_49
                refine lv_aload_n hx hb dX10_judge_90 rfl (lv_at hl 2 rfl) ?_
                refine h_get (ci := 10) (v := .ref (AR 0)) (C := RX10) (T := TX10) (N := 26) hx hb hts kl_X10 hown hK hw hJ31.1.1 rfl 5 (by decide) (hts _ kf_X10_7) rfl rfl dX10_judge_91 ?_
                refine lv_iload_n hx hb dX10_judge_94 rfl (lv_at hl 1 rfl) ?_
                refine h_iald hx hb hK hw (moA_a (n := 2048) (f := g31 0) hJ31.1 0 (by decide) rfl rfl) u9 rfl (by omega) (by omega) dX10_judge_95 ?_
                rw [show (g31 0) u9 = KD u9 from (hS.2 _ (by omega)).1]
                refine lv_iconst (v := 3) hx hb dX10_judge_96 (by decide) ?_
                refine lv_icmp_ne (tgt := 108) hx hb dX10_judge_97 (by decide) (fun c_50 => ?_) (fun c_50 => ?_)
                · skip
                  refine lv_aload_n hx hb dX10_judge_108 rfl (lv_at hl 2 rfl) ?_
                  refine h_get (ci := 10) (v := .ref (AR 0)) (C := RX10) (T := TX10) (N := 26) hx hb hts kl_X10 hown hK hw hJ31.1.1 rfl 5 (by decide) (hts _ kf_X10_7) rfl rfl dX10_judge_109 ?_
                  refine lv_iload_n hx hb dX10_judge_112 rfl (lv_at hl 1 rfl) ?_
                  refine h_iald hx hb hK hw (moA_a (n := 2048) (f := g31 0) hJ31.1 0 (by decide) rfl rfl) u9 rfl (by omega) (by omega) dX10_judge_113 ?_
                  rw [show (g31 0) u9 = KD u9 from (hS.2 _ (by omega)).1]
                  refine lv_bipush (v := 6) hx hb dX10_judge_114 (by decide) ?_
                  refine lv_icmp_ne (tgt := 125) hx hb dX10_judge_116 (by decide) (fun c_51 => ?_) (fun c_51 => ?_)
                  · skip
                    refine lv_iload_n hx hb dX10_judge_125 rfl (lv_at hl 0 rfl) ?_
                    refine lv_if_le (tgt := 131) hx hb dX10_judge_126 (by decide) (fun c_52 => ?_) (fun c_52 => ?_)
                    · skip
                      refine lv_iinc (v := nI (u9 + 1)) (lv' := [(1, .int (nI (u9 + 1))), (2, .int 0), (0, .ref mo)]) hx hb dX10_judge_131 hl (k := 1) rfl (nI_c _ 1) (by decide) rfl (fun ls hl => ?_)
                      refine lv_goto (tgt := 31) hx hb dX10_judge_134 (by decide) ?_
                      exact ih31 (u9 + 1) q31 g31 ah31 ls _ _ (by omega) hJ31 hpl31 (by omega) (lt_o hp31 (jgS_2a c_21 c_49)) (lv_sub hl [0, 2] rfl) hw
                    · exact absurd c_52 (by decide)
                  · skip
                    exfalso
                    (rw [c_21] at c_51; exact absurd c_51 (by decide))
                · skip
                  exfalso
                  (rw [c_21] at c_50; exact absurd c_50 (by decide))
              · skip
                have c_49 : ¬ (PC u9 ≤ 0) := (not_congr (nI_lex (by rfl) (by decide) (by omega) (by omega))).mp c_49
                have hPF := hPF (by omega)
                refine lv_aload_n hx hb dX10_judge_60 rfl (lv_at hl 2 rfl) ?_
                refine lv_aload_n hx hb dX10_judge_61 rfl (lv_at hl 2 rfl) ?_
                refine h_get (ci := 10) (v := .ref (AR 3)) (C := RX10) (T := TX10) (N := 26) hx hb hts kl_X10 hown hK hw hJ31.1.1 rfl 8 (by decide) (hts _ kf_X10_19) rfl rfl dX10_judge_62 ?_
                refine lv_iload_n hx hb dX10_judge_65 rfl (lv_at hl 1 rfl) ?_
                refine h_iald hx hb hK hw (moA_a (n := 2048) (f := g31 3) hJ31.1 3 (by decide) rfl rfl) u9 rfl (by omega) (by omega) dX10_judge_66 ?_
                rw [show (g31 3) u9 = nI (PF u9) from (hS.2 _ (by omega)).2.2.2.1]
                refine lv_aload_n hx hb dX10_judge_67 rfl (lv_at hl 2 rfl) ?_
                refine h_get (ci := 10) (v := .ref (AR 4)) (C := RX10) (T := TX10) (N := 26) hx hb hts kl_X10 hown hK hw hJ31.1.1 rfl 9 (by decide) (hts _ kf_X10_22) rfl rfl dX10_judge_68 ?_
                refine lv_iload_n hx hb dX10_judge_71 rfl (lv_at hl 1 rfl) ?_
                refine h_iald hx hb hK hw (moA_a (n := 2048) (f := g31 4) hJ31.1 4 (by decide) rfl rfl) u9 rfl (by omega) (by omega) dX10_judge_72 ?_
                rw [show (g31 4) u9 = nI (PC u9) from (hS.2 _ (by omega)).2.2.2.2.1]
                refine lv_iconst (v := 2) hx hb dX10_judge_73 (by decide) ?_
                refine h_callV (n := 3) (ci := 10) (b := mo) (As := [.int (nI (PF u9)), .int (nI (PC u9)), .int (nI 2)]) (rest := []) ⟨hx, hb, hml, hown, hts⟩ hK hw (c_X10_isFew l D dT ah31 H31.size mo AR q31 g31 hJ31.1 np X Y hX nr RP RN hRg (PF u9) (PC u9) 2 (by omega) (by omega) (by omega)) ko_X10_isFew km_X10_182 ki_X10_isFew ks_X10_isFew kn_X10 (by decide +kernel) rfl hJ31.1.1 rfl hl.1 rfl (by simp [Value.category]) dX10_judge_74 (by rw [hR]; exact ⟨rfl, rfl, Nat.le_of_ble_eq_true rfl, Nat.le_of_ble_eq_true rfl, by simp, by simp⟩) (fun r_54 ah_55 H_56 L_57 st_58 hp hw hst => ?_)
                obtain ⟨rfl, rfl⟩ := hp
                have hst : st_58 = [.int (bI (mFew X Y (PF u9) (PC u9) 2))] := hst
                subst hst
                refine lv_if_eq (tgt := 90) hx hb dX10_judge_77 (by decide) (fun c_59 => ?_) (fun c_59 => ?_)
                · skip
                  have c_59 : mFew X Y (PF u9) (PC u9) 2 = false := bI_0.mp c_59
                  refine lv_aload_n hx hb dX10_judge_90 rfl (lv_at hl 2 rfl) ?_
                  refine h_get (ci := 10) (v := .ref (AR 0)) (C := RX10) (T := TX10) (N := 26) hx hb hts kl_X10 hown hK hw hJ31.1.1 rfl 5 (by decide) (hts _ kf_X10_7) rfl rfl dX10_judge_91 ?_
                  refine lv_iload_n hx hb dX10_judge_94 rfl (lv_at hl 1 rfl) ?_
                  refine h_iald hx hb hK hw (moA_a (n := 2048) (f := g31 0) hJ31.1 0 (by decide) rfl rfl) u9 rfl (by omega) (by omega) dX10_judge_95 ?_
                  rw [show (g31 0) u9 = KD u9 from (hS.2 _ (by omega)).1]
                  refine lv_iconst (v := 3) hx hb dX10_judge_96 (by decide) ?_
                  refine lv_icmp_ne (tgt := 108) hx hb dX10_judge_97 (by decide) (fun c_60 => ?_) (fun c_60 => ?_)
                  · skip
                    refine lv_aload_n hx hb dX10_judge_108 rfl (lv_at hl 2 rfl) ?_
                    refine h_get (ci := 10) (v := .ref (AR 0)) (C := RX10) (T := TX10) (N := 26) hx hb hts kl_X10 hown hK hw hJ31.1.1 rfl 5 (by decide) (hts _ kf_X10_7) rfl rfl dX10_judge_109 ?_
                    refine lv_iload_n hx hb dX10_judge_112 rfl (lv_at hl 1 rfl) ?_
                    refine h_iald hx hb hK hw (moA_a (n := 2048) (f := g31 0) hJ31.1 0 (by decide) rfl rfl) u9 rfl (by omega) (by omega) dX10_judge_113 ?_
                    rw [show (g31 0) u9 = KD u9 from (hS.2 _ (by omega)).1]
                    refine lv_bipush (v := 6) hx hb dX10_judge_114 (by decide) ?_
                    refine lv_icmp_ne (tgt := 125) hx hb dX10_judge_116 (by decide) (fun c_61 => ?_) (fun c_61 => ?_)
                    · skip
                      refine lv_iload_n hx hb dX10_judge_125 rfl (lv_at hl 0 rfl) ?_
                      refine lv_if_le (tgt := 131) hx hb dX10_judge_126 (by decide) (fun c_62 => ?_) (fun c_62 => ?_)
                      · skip
                        refine lv_iinc (v := nI (u9 + 1)) (lv' := [(1, .int (nI (u9 + 1))), (2, .int 0), (0, .ref mo)]) hx hb dX10_judge_131 hl (k := 1) rfl (nI_c _ 1) (by decide) rfl (fun ls hl => ?_)
                        refine lv_goto (tgt := 31) hx hb dX10_judge_134 (by decide) ?_
                        refine W.widen (k := 0 + 0) (n := 0 + 0) (by omega) (by omega) ?_
                        exact ih31 (u9 + 1) q31 g31 ah31 ls _ _ (by omega) hJ31 hpl31 (by omega) (lt_o hp31 (jgS_2b c_21 c_49 c_59)) (lv_sub hl [0, 2] rfl) hw
                      · exact absurd c_62 (by decide)
                    · skip
                      exfalso
                      (rw [c_21] at c_61; exact absurd c_61 (by decide))
                  · skip
                    exfalso
                    (rw [c_21] at c_60; exact absurd c_60 (by decide))
                · skip
                  have c_59 : ¬ (mFew X Y (PF u9) (PC u9) 2 = false) := (not_congr bI_0).mp c_59
                  refine lv_aload_n hx hb dX10_judge_80 rfl (lv_at hl 2 rfl) ?_
                  refine lv_iconst (v := 2) hx hb dX10_judge_81 (by decide) ?_
                  refine lv_iload_n hx hb dX10_judge_82 rfl (lv_at hl 1 rfl) ?_
                  refine lv_iconst (v := (-1)) hx hb dX10_judge_83 (by decide) ?_
                  refine lv_iconst (v := (-1)) hx hb dX10_judge_84 (by decide) ?_
                  refine lv_iconst (v := (-1)) hx hb dX10_judge_85 (by decide) ?_
                  refine h_callV (n := 5) (ci := 10) (b := mo) (As := [.int 2, .int (nI u9), .int (-1), .int (-1), .int (-1)]) (rest := []) ⟨hx, hb, hml, hown, hts⟩ hK hw (c_X10_told l D dT ah31 H_56.size mo AR q31 g31 hJ31.1 pl hpl31 2 (nI u9) (-1) (-1) (-1)) ko_X10_told km_X10_178 ki_X10_told ks_X10_told kn_X10 (by decide +kernel) rfl hJ31.1.1 rfl hl.1 rfl (by simp [Value.category]) dX10_judge_86 (by rw [hR]; exact ⟨rfl, rfl, Nat.le_of_ble_eq_true rfl, Nat.le_of_ble_eq_true rfl, by simp, by simp⟩) (fun r_64 ah_65 H_66 L_67 st_68 hp hw hst => ?_)
                  obtain ⟨rfl, eah_65⟩ := hp
                  have hJ_70 : moK dT ah ah_65 mo AR (upd q 0 0) g q31 (va_up g31 12 (p1 (upd pl 0 (nI u9)) (-1) (-1) (-1))) := moK_g hJ31 12 (by decide) eah_65
                  have hst : st_68 = [.int 2] := hst
                  subst hst
                  refine lv_istore_n (lv' := [(2, .int 2), (1, .int (nI u9)), (0, .ref mo)]) hx hb dX10_judge_89 rfl hl (by decide) rfl (fun ls hl => ?_)
                  refine lv_aload_n hx hb dX10_judge_90 rfl (lv_at hl 2 rfl) ?_
                  refine h_get (ci := 10) (v := .ref (AR 0)) (C := RX10) (T := TX10) (N := 26) hx hb hts kl_X10 hown hK hw hJ_70.1.1 rfl 5 (by decide) (hts _ kf_X10_7) rfl rfl dX10_judge_91 ?_
                  refine lv_iload_n hx hb dX10_judge_94 rfl (lv_at hl 1 rfl) ?_
                  refine h_iald hx hb hK hw (moA_a (n := 2048) (f := g31 0) hJ_70.1 0 (by decide) rfl rfl) u9 rfl (by omega) (by omega) dX10_judge_95 ?_
                  rw [show (g31 0) u9 = KD u9 from (hS.2 _ (by omega)).1]
                  refine lv_iconst (v := 3) hx hb dX10_judge_96 (by decide) ?_
                  refine lv_icmp_ne (tgt := 108) hx hb dX10_judge_97 (by decide) (fun c_71 => ?_) (fun c_71 => ?_)
                  · skip
                    refine lv_aload_n hx hb dX10_judge_108 rfl (lv_at hl 2 rfl) ?_
                    refine h_get (ci := 10) (v := .ref (AR 0)) (C := RX10) (T := TX10) (N := 26) hx hb hts kl_X10 hown hK hw hJ_70.1.1 rfl 5 (by decide) (hts _ kf_X10_7) rfl rfl dX10_judge_109 ?_
                    refine lv_iload_n hx hb dX10_judge_112 rfl (lv_at hl 1 rfl) ?_
                    refine h_iald hx hb hK hw (moA_a (n := 2048) (f := g31 0) hJ_70.1 0 (by decide) rfl rfl) u9 rfl (by omega) (by omega) dX10_judge_113 ?_
                    rw [show (g31 0) u9 = KD u9 from (hS.2 _ (by omega)).1]
                    refine lv_bipush (v := 6) hx hb dX10_judge_114 (by decide) ?_
                    refine lv_icmp_ne (tgt := 125) hx hb dX10_judge_116 (by decide) (fun c_72 => ?_) (fun c_72 => ?_)
                    · skip
                      refine lv_iload_n hx hb dX10_judge_125 rfl (lv_at hl 0 rfl) ?_
                      refine lv_if_le (tgt := 131) hx hb dX10_judge_126 (by decide) (fun c_73 => ?_) (fun c_73 => ?_)
                      · exact absurd c_73 (by decide)
                      · skip
                        refine lv_iload_n hx hb dX10_judge_129 rfl (lv_at hl 0 rfl) ?_
                        rw [hQ]
                        exact h_iret hx hb hr hlk hsz hw (by simp) (by simp) dX10_judge_130 (Or.inr ⟨⟨by omega, by omega⟩, ⟨_, q31, (va_up g31 12 (p1 (upd pl 0 (nI u9)) (-1) (-1) (-1))), rfl, hJ_70, (by rw [show firstO ns (jgS X Y RP RN ns FG RC PF PC KD WH PA pl) = some (2, p1 (upd pl 0 (nI u9)) (-1) (-1) (-1)) from firstO_some (i := u9) (by omega) (jgS_2c c_21 c_49 c_59) hp31]; exact ⟨rfl, (show (0 : Int32) < 2 by decide), rfl⟩)⟩⟩)
                    · skip
                      exfalso
                      (rw [c_21] at c_72; exact absurd c_72 (by decide))
                  · skip
                    exfalso
                    (rw [c_21] at c_71; exact absurd c_71 (by decide))
      exact LP31 ((ns - 0) + 1) 0 (upd q 0 0) (va_up g 12 (fillF p0 (-1) 7)) ah_14 ls _ _ (Nat.lt_succ_self _) hJ_19 hpl9.symm (by omega) (fun j hj => absurd hj (Nat.not_lt_zero _)) (lv_sub hl [0, 1] rfl) hw
    · skip
      have c_12 : ¬ (no ≤ 0) := (not_congr (nI_lex (by rfl) (by decide) (by omega) (by omega))).mp c_12
      refine lv_aload_n hx hb dX10_judge_19 rfl (lv_at hl 0 rfl) ?_
      refine lv_iconst (v := 1) hx hb dX10_judge_20 (by decide) ?_
      refine h_callV (n := 1) (ci := 10) (b := mo) (As := [.int 1]) (rest := []) ⟨hx, hb, hml, hown, hts⟩ hK hw (c_X10_fail l D dT ah_3 H_1.size mo AR (upd q 0 0) g hm_4 1) ko_X10_fail km_X10_82 ki_X10_fail ks_X10_fail kn_X10 (by decide +kernel) rfl hm_4.1 rfl hl.1 rfl (by simp [Value.category]) dX10_judge_21 (by rw [hR]; exact ⟨rfl, rfl, Nat.le_of_ble_eq_true rfl, Nat.le_of_ble_eq_true rfl, by simp, by simp⟩) (fun r_74 ah_75 H_76 L_77 st_78 hp hw hst => ?_)
      obtain ⟨rfl, eah_75⟩ := hp
      rw [show (upd (upd q 0 0) 0 1) = (upd q 0 1) from upd_s] at eah_75
      have hm_79 : moA dT ah_75 mo AR (upd q 0 1) g := moA_q hm_4 eah_75
      have hst : st_78 = [.int 0] := hst
      subst hst
      rw [hQ]
      exact h_iret hx hb hr hlk hsz hw (by simp) (by simp) dX10_judge_24 (Or.inl ⟨Or.inr (by omega), rfl, (by subst_vars; simp only [hup_hup, upd_s])⟩)

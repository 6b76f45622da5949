/-! ShapeJudgeModel: the rings, the holes -/
theorem nI_subl (a b : Nat) : nI (a + b) - nI a = nI b := (pk_sub (by omega)).trans (by rw [Nat.add_sub_cancel_left])
theorem mMeet_f {X Y : Nat → Int32} {mx my : Int32} {a b : Nat} : mMeet X Y mx my a b = mMeet X Y 0 0 a b ∨ ((mMeet X Y mx my a b).1 = 0 ∧ (mMeet X Y 0 0 a b).1 = 0) ∨ ((mMeet X Y mx my a b).1 = 2 ∧ (mMeet X Y 0 0 a b).1 = 2) := by
  unfold mMeet
  repeat' split
  all_goals first | exact Or.inl rfl | exact Or.inr (Or.inl ⟨rfl, rfl⟩) | exact Or.inr (Or.inr ⟨rfl, rfl⟩)
theorem mPair_f {X Y : Nat → Int32} {RP RN : Nat → Nat} {mx my : Int32} {r a q b : Nat} : mPair X Y RP RN mx my r a q b = mPair X Y RP RN 0 0 r a q b := by
  rcases mMeet_f (X := X) (Y := Y) (mx := mx) (my := my) (a := a) (b := b) with h | ⟨h1, h2⟩ | ⟨h1, h2⟩
  · unfold mPair; rw [h]
  · unfold mPair; rw [if_pos (show (mMeet X Y mx my a b).1 ≤ 1 by rw [h1]; decide), if_pos h1, if_pos (show (mMeet X Y 0 0 a b).1 ≤ 1 by rw [h2]; decide), if_pos h2]
  · unfold mPair; rw [if_neg (show ¬ (mMeet X Y mx my a b).1 ≤ 1 by rw [h1]; decide), if_neg (show ¬ (mMeet X Y mx my a b).1 = 3 by rw [h1]; decide), if_neg (show ¬ (mMeet X Y 0 0 a b).1 ≤ 1 by rw [h2]; decide), if_neg (show ¬ (mMeet X Y 0 0 a b).1 = 3 by rw [h2]; decide)]
abbrev mPr (X Y : Nat → Int32) (RP RN : Nat → Nat) (r a q b : Nat) : Int32 := mPair X Y RP RN 0 0 r a q b
/-- what judging leaves alone in the model -/
def moK (dT : Nat → ClassId) (ah ah2 : hA) (mo : Nat) (AR : Nat → Nat) (q : Nat → Int32) (g : Nat → Nat → Int32) (q2 : Nat → Int32) (g2 : Nat → Nat → Int32) : Prop :=
  moA dT ah2 mo AR q2 g2 ∧ (∀ k, k < 6 → q2 k = q k) ∧ (∀ k, k < 12 → g2 k = g k) ∧ ∀ a e, ah a = some e → a ≠ mo → a ≠ AR 12 → a ≠ AR 13 → ah2 a = some e
theorem moK_r {dT : Nat → ClassId} {ah : hA} {mo : Nat} {AR : Nat → Nat} {q : Nat → Int32} {g : Nat → Nat → Int32} (h : moA dT ah mo AR q g) : moK dT ah ah mo AR q g q g := ⟨h, fun _ _ => rfl, fun _ _ => rfl, fun _ _ h _ _ _ => h⟩
theorem moK_q {dT : Nat → ClassId} {ah ah1 ah2 : hA} {mo : Nat} {AR : Nat → Nat} {q q1 q2 : Nat → Int32} {g g1 : Nat → Nat → Int32} (h : moK dT ah ah1 mo AR q g q1 g1) (e : ah2 = hup ah1 mo (.inr (10, moF q2 AR))) (hq : ∀ k, k < 6 → q2 k = q1 k) : moK dT ah ah2 mo AR q g q2 g1 :=
  ⟨moA_q h.1 e, fun k hk => (hq k hk).trans (h.2.1 k hk), h.2.2.1, fun a x ha h1 h2 h3 => by rw [e, hup_n h1]; exact h.2.2.2 a x ha h1 h2 h3⟩
theorem moK_g {dT : Nat → ClassId} {ah ah1 ah2 : hA} {mo : Nat} {AR : Nat → Nat} {q q1 : Nat → Int32} {g g1 : Nat → Nat → Int32} {f : Nat → Int32} (h : moK dT ah ah1 mo AR q g q1 g1) (k : Nat) (hk : k = 12 ∨ k = 13) (e : ah2 = hup ah1 (AR k) (.inl (dT 0, LN k, .inl f))) : moK dT ah ah2 mo AR q g q1 (va_up g1 k f) :=
  ⟨moA_g h.1 k (by omega) e, h.2.1, fun j hj => by simp only [va_up, if_neg (show ¬ j = k by omega)]; exact h.2.2.1 j hj, fun a x ha h1 h2 h3 => by
    rw [e, hup_n (by rcases hk with rfl | rfl <;> assumption)]; exact h.2.2.2 a x ha h1 h2 h3⟩
theorem moK_t {dT : Nat → ClassId} {ah ah1 ah2 : hA} {mo : Nat} {AR : Nat → Nat} {q q1 q2 : Nat → Int32} {g g1 g2 : Nat → Nat → Int32} (h : moK dT ah ah1 mo AR q g q1 g1) (h' : moK dT ah1 ah2 mo AR q1 g1 q2 g2) : moK dT ah ah2 mo AR q g q2 g2 :=
  ⟨h'.1, fun k hk => (h'.2.1 k hk).trans (h.2.1 k hk), fun k hk => (h'.2.2.1 k hk).trans (h.2.2.1 k hk), fun a x ha h1 h2 h3 => h'.2.2.2 a x (h.2.2.2 a x ha h1 h2 h3) h1 h2 h3⟩
/-- what a method that tells a fault answers -/
def moRs (o : fT) (pl : Nat → Int32) (v : Int32) (pl2 : Nat → Int32) : Prop := match o with
  | none => v = 0 ∧ pl2 = pl
  | some z => v = z.1 ∧ 0 < z.1 ∧ pl2 = z.2
def moO (dT : Nat → ClassId) (ah ah2 : hA) (mo : Nat) (AR : Nat → Nat) (q : Nat → Int32) (g : Nat → Nat → Int32) (pl : Nat → Int32) (o : fT) (r : Option Value) : Prop :=
  ∃ (v : Int32) (q2 : Nat → Int32) (g2 : Nat → Nat → Int32), r = some (.int v) ∧ moK dT ah ah2 mo AR q g q2 g2 ∧ moRs o pl v (g2 12)
theorem moRs_z {o : fT} {pl pl2 : Nat → Int32} {v : Int32} (h : moRs o pl v pl2) (hv : v ≤ 0) : o = none ∧ pl2 = pl := by
  cases o with
  | none => exact ⟨rfl, h.2⟩
  | some z => obtain ⟨h1, h2, -⟩ := h; rw [h1] at hv; rw [Int32.lt_iff_toInt_lt] at h2; rw [Int32.le_iff_toInt_le] at hv; omega
theorem moRs_0 {o : fT} {pl pl2 : Nat → Int32} {v : Int32} (h : moRs o pl v pl2) (hv : v = 0) : o = none ∧ pl2 = pl := moRs_z h (by rw [hv]; decide)
theorem moRs_s {o : fT} {pl pl2 : Nat → Int32} {v : Int32} (h : moRs o pl v pl2) (hv : ¬ v = 0) : o = some (v, pl2) ∧ 0 < v := by
  cases o with
  | none => exact absurd h.1 hv
  | some z => obtain ⟨h1, h2, h3⟩ := h; rw [h1, h3]; exact ⟨rfl, h2⟩
theorem moRs_p {o : fT} {pl pl2 : Nat → Int32} {v : Int32} (h : moRs o pl v pl2) (hv : ¬ v ≤ 0) : o = some (v, pl2) ∧ 0 < v := moRs_s h (fun h9 => hv (by rw [h9]; decide))
/-- the shapes' numbers in the model -/
def moS (ns np nr : Nat) (g : Nat → Nat → Int32) (FG RC PF PC : Nat → Nat) (KD WH PA : Nat → Int32) : Prop :=
  ns ≤ 2048 ∧ ∀ s, s < ns → g 0 s = KD s ∧ g 1 s = WH s ∧ g 2 s = PA s ∧ g 3 s = nI (PF s) ∧ g 4 s = nI (PC s) ∧ g 5 s = nI (FG s) ∧ g 6 s = nI (RC s) ∧ PF s + PC s ≤ np ∧ FG s + RC s ≤ nr
theorem moX_k {dT : Nat → ClassId} {ah ah2 : hA} {mo np : Nat} {AR : Nat → Nat} {q q2 : Nat → Int32} {g g2 : Nat → Nat → Int32} {X Y : Nat → Int32} (h : moK dT ah ah2 mo AR q g q2 g2) (hX : moX np g X Y) : moX np g2 X Y := ⟨hX.1, fun j hj => by rw [h.2.2.1 9 (by decide), h.2.2.1 10 (by decide)]; exact hX.2 j hj⟩
theorem moR_k {dT : Nat → ClassId} {ah ah2 : hA} {mo np nr : Nat} {AR : Nat → Nat} {q q2 : Nat → Int32} {g g2 : Nat → Nat → Int32} {RP RN : Nat → Nat} (h : moK dT ah ah2 mo AR q g q2 g2) (hR : moR np nr g RP RN) : moR np nr g2 RP RN := ⟨hR.1, fun j hj => by rw [h.2.2.1 7 (by decide), h.2.2.1 8 (by decide)]; exact hR.2 j hj⟩
theorem moS_k {dT : Nat → ClassId} {ah ah2 : hA} {mo ns np nr : Nat} {AR : Nat → Nat} {q q2 : Nat → Int32} {g g2 : Nat → Nat → Int32} {FG RC PF PC : Nat → Nat} {KD WH PA : Nat → Int32} (h : moK dT ah ah2 mo AR q g q2 g2) (hS : moS ns np nr g FG RC PF PC KD WH PA) : moS ns np nr g2 FG RC PF PC KD WH PA := ⟨hS.1, fun j hj => by rw [h.2.2.1 0 (by decide), h.2.2.1 1 (by decide), h.2.2.1 2 (by decide), h.2.2.1 3 (by decide), h.2.2.1 4 (by decide), h.2.2.1 5 (by decide), h.2.2.1 6 (by decide)]; exact hS.2 j hj⟩
theorem pp_c {pl : Nat → Int32} {s a b c d e f : Int32} : p1 (upd (p2 pl d e f) 0 s) a b c = p2 (p1 (upd pl 0 s) a b c) d e f := by
  funext j
  simp only [p1, p2, upd]
  by_cases h0 : j = 0
  · subst h0; rfl
  · by_cases h1 : j = 1
    · subst h1; rfl
    · by_cases h2 : j = 2
      · subst h2; rfl
      · by_cases h3 : j = 3
        · subst h3; rfl
        · simp only [if_neg h0, if_neg h1, if_neg h2, if_neg h3]
theorem oe_s {a b : fT} {x : Int32 × (Nat → Int32)} (h : a = some x) : oe a b = some x := by rw [h]; rfl
theorem oe_n0 {a b : fT} (h : a = none) : oe a b = b := by rw [h]; rfl
theorem oe_nn {a b : fT} (h : a = none) (h2 : b = none) : oe a b = none := by rw [h, h2]; rfl
def rgO (X Y : Nat → Int32) (RP RN : Nat → Nat) (F : Nat) (sh pt : Int32) (pl : Nat → Int32) (k : Nat) : fT :=
  if RN (F + k) = 0 ∨ smP X Y (RP (F + k)) (RP (F + k) + RN (F + k) - 1) = false then some (1, p1 (upd pl 0 sh) pt (nI k) (-1)) else
  if mFew X Y (RP (F + k)) (RN (F + k)) 3 = false then none else some (2, p1 (upd pl 0 sh) pt (nI k) (-1))
theorem rgO_o {X Y : Nat → Int32} {RP RN : Nat → Nat} {F : Nat} {sh pt : Int32} {pl : Nat → Int32} {k : Nat} (h : RN (F + k) = 0 ∨ smP X Y (RP (F + k)) (RP (F + k) + RN (F + k) - 1) = false) : rgO X Y RP RN F sh pt pl k = some (1, p1 (upd pl 0 sh) pt (nI k) (-1)) := if_pos h
theorem rgO_f {X Y : Nat → Int32} {RP RN : Nat → Nat} {F : Nat} {sh pt : Int32} {pl : Nat → Int32} {k : Nat} (h : ¬ RN (F + k) = 0) (h1 : ¬ smP X Y (RP (F + k)) (RP (F + k) + RN (F + k) - 1) = false) (h2 : ¬ mFew X Y (RP (F + k)) (RN (F + k)) 3 = false) : rgO X Y RP RN F sh pt pl k = some (2, p1 (upd pl 0 sh) pt (nI k) (-1)) := by
  unfold rgO; rw [if_neg (fun h9 => h9.elim h h1), if_neg h2]
theorem rgO_n {X Y : Nat → Int32} {RP RN : Nat → Nat} {F : Nat} {sh pt : Int32} {pl : Nat → Int32} {k : Nat} (h : ¬ RN (F + k) = 0) (h1 : ¬ smP X Y (RP (F + k)) (RP (F + k) + RN (F + k) - 1) = false) (h2 : mFew X Y (RP (F + k)) (RN (F + k)) 3 = false) : rgO X Y RP RN F sh pt pl k = none := by
  unfold rgO; rw [if_neg (fun h9 => h9.elim h h1), if_pos h2]
def hoM (X Y : Nat → Int32) (RP RN : Nat → Nat) (F : Nat) (sh pt : Int32) (pl : Nat → Int32) (k : Nat) : fT := if k < 1 then none else if mIn X Y RP RN (F + k) F = false then some (6, p1 (upd pl 0 sh) pt (nI k) (-1)) else none
theorem hoM_n {X Y : Nat → Int32} {RP RN : Nat → Nat} {F : Nat} {sh pt : Int32} {pl : Nat → Int32} {k : Nat} (h : ¬ mIn X Y RP RN (F + k) F = false) : hoM X Y RP RN F sh pt pl k = none := by unfold hoM; rw [if_neg h]; simp
theorem hoM_s {X Y : Nat → Int32} {RP RN : Nat → Nat} {F : Nat} {sh pt : Int32} {pl : Nat → Int32} {k : Nat} (h1 : 1 ≤ k) (h : mIn X Y RP RN (F + k) F = false) : hoM X Y RP RN F sh pt pl k = some (6, p1 (upd pl 0 sh) pt (nI k) (-1)) := by unfold hoM; rw [if_neg (by omega), if_pos h]
def phM (X Y : Nat → Int32) (RP RN : Nat → Nat) (F : Nat) (sh pt : Int32) (pl : Nat → Int32) (i j : Nat) : fT := if i < 1 then none else if j < i + 1 then none else if mIn X Y RP RN (F + i) (F + j) = false ∧ mIn X Y RP RN (F + j) (F + i) = false then none else some (7, p2 (p1 (upd pl 0 sh) pt (nI i) (-1)) pt (nI j) (-1))
theorem phM_l {X Y : Nat → Int32} {RP RN : Nat → Nat} {F : Nat} {sh pt : Int32} {pl : Nat → Int32} {i j : Nat} (h : j < i + 1) : phM X Y RP RN F sh pt pl i j = none := by unfold phM; rw [if_pos h]; simp
theorem phM_n {X Y : Nat → Int32} {RP RN : Nat → Nat} {F : Nat} {sh pt : Int32} {pl : Nat → Int32} {i j : Nat} (h1 : mIn X Y RP RN (F + i) (F + j) = false) (h2 : mIn X Y RP RN (F + j) (F + i) = false) : phM X Y RP RN F sh pt pl i j = none := by unfold phM; split; rfl; split; rfl; rw [if_pos ⟨h1, h2⟩]
theorem phM_s {X Y : Nat → Int32} {RP RN : Nat → Nat} {F : Nat} {sh pt : Int32} {pl : Nat → Int32} {i j : Nat} (hi : 1 ≤ i) (hj : i + 1 ≤ j) (h : ¬ mIn X Y RP RN (F + i) (F + j) = false ∨ ¬ mIn X Y RP RN (F + j) (F + i) = false) : phM X Y RP RN F sh pt pl i j = some (7, p2 (p1 (upd pl 0 sh) pt (nI i) (-1)) pt (nI j) (-1)) := by
  unfold phM; rw [if_neg (by omega), if_neg (by omega), if_neg (fun h9 => h.elim (fun h8 => h8 h9.1) (fun h8 => h8 h9.2))]
def mFst (X Y : Nat → Int32) (p fr : Nat) : Bool := !anyB (p - fr) (fun i9 => smP X Y (fr + i9) p)
theorem fst_e {f : Nat → Bool} {i : Nat} (h : ¬ (!anyB i f) = false) : (if f i = false then (1 : Int32) else 0) = bI (!anyB (i + 1) f) := by
  have h1 : anyB i f = false := by cases h2 : anyB i f <;> simp_all
  rw [anyB, h1]; cases f i <;> rfl
theorem mFst_u {X Y : Nat → Int32} {p fr i : Nat} (hi : fr + i ≤ p) (h : (!anyB i (fun i9 => smP X Y (fr + i9) p)) = false) : (!anyB i (fun i9 => smP X Y (fr + i9) p)) = mFst X Y p fr :=
  congrArg (fun z => !z) (anyB_u (j := i) (n := p - fr) (by omega) (by cases h2 : anyB i (fun i9 => smP X Y (fr + i9) p) <;> simp_all) rfl)
set_option maxHeartbeats 4000000 in
set_option maxRecDepth 100000 in
theorem c_X10_ringsOf (l : Launch) (D : va_G) (dT : Nat → ClassId) (ah : hA) (sz : Nat) (mo : Nat) (AR : Nat → Nat) (q : Nat → Int32) (g : Nat → Nat → Int32) (hm : moA dT ah mo AR q g) (np : Nat) (X Y : Nat → Int32) (hX : moX np g X Y) (nr : Nat) (RP RN : Nat → Nat) (hRg : moR np nr g RP RN) (ns : Nat) (FG RC PF PC : Nat → Nat) (KD WH PA : Nat → Int32) (hS : moS ns np nr g FG RC PF PC KD WH PA) (pl : Nat → Int32) (hpl : g 12 = pl) (s9 : Nat) (hs9 : s9 < ns) (sh9 pt9 : Int32) : hMet l yX10_ringsOf cX10_ringsOf 6 (some .int) ({ frames := 2, cells := 0, slots := 0, locals := 49 }) D dT [.ref mo, .int (nI s9), .int sh9, .int pt9] ah sz (fun r ah2 => moO dT ah ah2 mo AR q g pl (firstO (RC s9) (rgO X Y RP RN (FG s9) sh9 pt9 pl)) r) 0 0 := by
  refine h_met (by decide) (Nat.le_of_ble_eq_true rfl) ?_
  intro p e s m below meth c ls R Q args hav hR hQ hB hl hsz hw
  obtain ⟨hx, hb, hml, hr, hts, hown, hlk, hin, hK⟩ := hB
  have hown : s.vm.findClass RX10 = some m.cls := hown
  have hl : lv_has ls 6 [(0, .ref mo), (1, .int (nI s9)), (2, .int sh9), (3, .int pt9)] := hl
  have hnp := hX.1
  have hnr := hRg.1
  have hns9 := hS.1
  have hJ0 : moK dT ah ah mo AR q g q g := moK_r hm
  have hFR := (hS.2 s9 hs9).2.2.2.2.2.2.2.2
  refine lv_iconst (v := 0) hx hb dX10_ringsOf_0 (by decide) ?_
  refine lv_istore (lv' := [(4, .int 0), (0, .ref mo), (1, .int (nI s9)), (2, .int sh9), (3, .int pt9)]) hx hb dX10_ringsOf_1 hl (by decide) rfl (fun ls hl => ?_)
  have LP3 : ∀ (k3 : Nat) (k : Nat) (ls : Array Slot) (H3 : Heap) (L3 : List Loc), (RC s9 - k < k3) → (k ≤ RC s9) → (∀ j, j < k → rgO X Y RP RN (FG s9) sh9 pt9 pl j = none) → lv_has ls 6 [(4, .int (nI k)), (3, .int pt9), (2, .int sh9), (1, .int (nI s9)), (0, .ref mo)] → hW D ah s.heap ah H3 L3 → W p l e R s m args below meth c H3 L3 (0) (0) Q (F0 m 3 ls []) := by
    intro k3
    induction k3 with
    | zero => intro k ls H3 L3 hk; exact absurd hk (Nat.not_lt_zero _)
    | succ k3 ih3 =>
      intro k ls H3 L3 hk3 hk3 hp3 hl hw
      have hrk : k < RC s9 → RP (FG s9 + k) + RN (FG s9 + k) ≤ np := fun h9 => (hRg.2 _ (by omega)).2.2
      refine lv_iload hx hb dX10_ringsOf_3 (lv_at hl 0 rfl) ?_
      refine lv_aload_n hx hb dX10_ringsOf_5 rfl (lv_at hl 4 rfl) ?_
      refine h_get (ci := 10) (v := .ref (AR 6)) (C := RX10) (T := TX10) (N := 26) hx hb hts kl_X10 hown hK hw hm.1 rfl 11 (by decide) (hts _ kf_X10_28) rfl rfl dX10_ringsOf_6 ?_
      refine lv_iload_n hx hb dX10_ringsOf_9 rfl (lv_at hl 3 rfl) ?_
      refine h_iald hx hb hK hw (moA_a (n := 2048) (f := g 6) hm 6 (by decide) rfl rfl) s9 rfl (by omega) (by omega) dX10_ringsOf_10 ?_
      rw [show (g 6) s9 = nI (RC s9) from (hS.2 _ (by omega)).2.2.2.2.2.2.1]
      refine lv_icmp_ge (tgt := 105) hx hb dX10_ringsOf_11 (by decide) (fun c_1 => ?_) (fun c_1 => ?_)
      · skip
        have c_1 : RC s9 ≤ k := (nI_lex (by rfl) (by rfl) (by omega) (by omega)).mp c_1
        refine lv_iconst (v := 0) hx hb dX10_ringsOf_105 (by decide) ?_
        rw [hQ]
        exact h_iret hx hb hr hlk hsz hw (by simp) (by simp) dX10_ringsOf_106 ⟨_, q, g, rfl, hJ0, (by rw [show firstO (RC s9) (rgO X Y RP RN (FG s9) sh9 pt9 pl) = none from firstO_none (fun j hj => hp3 j (by omega))]; exact ⟨rfl, hpl⟩)⟩
      · skip
        have c_1 : ¬ (RC s9 ≤ k) := (not_congr (nI_lex (by rfl) (by rfl) (by omega) (by omega))).mp c_1
        have hrk := hrk (by omega)
        refine lv_aload_n hx hb dX10_ringsOf_14 rfl (lv_at hl 4 rfl) ?_
        refine h_get (ci := 10) (v := .ref (AR 5)) (C := RX10) (T := TX10) (N := 26) hx hb hts kl_X10 hown hK hw hm.1 rfl 10 (by decide) (hts _ kf_X10_25) rfl rfl dX10_ringsOf_15 ?_
        refine lv_iload_n hx hb dX10_ringsOf_18 rfl (lv_at hl 3 rfl) ?_
        refine h_iald hx hb hK hw (moA_a (n := 2048) (f := g 5) hm 5 (by decide) rfl rfl) s9 rfl (by omega) (by omega) dX10_ringsOf_19 ?_
        rw [show (g 5) s9 = nI (FG s9) from (hS.2 _ (by omega)).2.2.2.2.2.1]
        refine lv_iload hx hb dX10_ringsOf_20 (lv_at hl 0 rfl) ?_
        refine lv_iadd hx hb dX10_ringsOf_22 ?_
        refine lv_topi (fun t_2 et_2 => ?_)
        obtain rfl : t_2 = nI (FG s9 + k) := et_2.trans (nI_add _ _)
        refine lv_istore (lv' := [(5, .int (nI (FG s9 + k))), (4, .int (nI k)), (3, .int pt9), (2, .int sh9), (1, .int (nI s9)), (0, .ref mo)]) hx hb dX10_ringsOf_23 hl (by decide) rfl (fun ls hl => ?_)
        refine lv_aload_n hx hb dX10_ringsOf_25 rfl (lv_at hl 5 rfl) ?_
        refine h_get (ci := 10) (v := .ref (AR 8)) (C := RX10) (T := TX10) (N := 26) hx hb hts kl_X10 hown hK hw hm.1 rfl 13 (by decide) (hts _ kf_X10_34) rfl rfl dX10_ringsOf_26 ?_
        refine lv_iload hx hb dX10_ringsOf_29 (lv_at hl 0 rfl) ?_
        refine h_iald hx hb hK hw (moA_a (n := 4096) (f := g 8) hm 8 (by decide) rfl rfl) (FG s9 + k) rfl (by omega) (by omega) dX10_ringsOf_31 ?_
        rw [show (g 8) (FG s9 + k) = nI (RN (FG s9 + k)) from (hRg.2 _ (by omega)).2.1]
        refine lv_if_eq (tgt := 55) hx hb dX10_ringsOf_32 (by decide) (fun c_3 => ?_) (fun c_3 => ?_)
        · skip
          have c_3 : RN (FG s9 + k) = 0 := (nI_eqx (by rfl) (by decide) (by omega) (by omega)).mp c_3
          refine lv_aload_n hx hb dX10_ringsOf_55 rfl (lv_at hl 5 rfl) ?_
          refine lv_iconst (v := 1) hx hb dX10_ringsOf_56 (by decide) ?_
          refine lv_iload_n hx hb dX10_ringsOf_57 rfl (lv_at hl 3 rfl) ?_
          refine lv_iload_n hx hb dX10_ringsOf_58 rfl (lv_at hl 2 rfl) ?_
          refine lv_iload hx hb dX10_ringsOf_59 (lv_at hl 1 rfl) ?_
          refine lv_iconst (v := (-1)) hx hb dX10_ringsOf_61 (by decide) ?_
          refine h_callV (n := 5) (ci := 10) (b := mo) (As := [.int 1, .int sh9, .int pt9, .int (nI k), .int (-1)]) (rest := []) ⟨hx, hb, hml, hown, hts⟩ hK hw (c_X10_told l D dT ah H3.size mo AR q g hm pl hpl 1 sh9 pt9 (nI k) (-1)) ko_X10_told km_X10_178 ki_X10_told ks_X10_told kn_X10 (by decide +kernel) rfl hm.1 rfl hl.1 rfl (by simp [Value.category]) dX10_ringsOf_62 (by rw [hR]; exact ⟨rfl, rfl, Nat.le_of_ble_eq_true rfl, Nat.le_of_ble_eq_true rfl, by simp, by simp⟩) (fun r_4 ah_5 H_6 L_7 st_8 hp hw hst => ?_)
          obtain ⟨rfl, eah_5⟩ := hp
          have hJ_10 : moK dT ah ah_5 mo AR q g q (va_up g 12 (p1 (upd pl 0 sh9) pt9 (nI k) (-1))) := moK_g hJ0 12 (by decide) eah_5
          have hst : st_8 = [.int 1] := hst
          subst hst
          rw [hQ]
          exact h_iret hx hb hr hlk hsz hw (by simp) (by simp) dX10_ringsOf_65 ⟨_, q, (va_up g 12 (p1 (upd pl 0 sh9) pt9 (nI k) (-1))), rfl, hJ_10, (by rw [show firstO (RC s9) (rgO X Y RP RN (FG s9) sh9 pt9 pl) = some (1, p1 (upd pl 0 sh9) pt9 (nI k) (-1)) from firstO_some (i := k) (by omega) (rgO_o (Or.inl c_3)) hp3]; exact ⟨rfl, (show (0 : Int32) < 1 by decide), rfl⟩)⟩
        · skip
          have c_3 : ¬ (RN (FG s9 + k) = 0) := (not_congr (nI_eqx (by rfl) (by decide) (by omega) (by omega))).mp c_3
          refine lv_aload_n hx hb dX10_ringsOf_35 rfl (lv_at hl 5 rfl) ?_
          refine lv_aload_n hx hb dX10_ringsOf_36 rfl (lv_at hl 5 rfl) ?_
          refine h_get (ci := 10) (v := .ref (AR 7)) (C := RX10) (T := TX10) (N := 26) hx hb hts kl_X10 hown hK hw hm.1 rfl 12 (by decide) (hts _ kf_X10_31) rfl rfl dX10_ringsOf_37 ?_
          refine lv_iload hx hb dX10_ringsOf_40 (lv_at hl 0 rfl) ?_
          refine h_iald hx hb hK hw (moA_a (n := 4096) (f := g 7) hm 7 (by decide) rfl rfl) (FG s9 + k) rfl (by omega) (by omega) dX10_ringsOf_42 ?_
          rw [show (g 7) (FG s9 + k) = nI (RP (FG s9 + k)) from (hRg.2 _ (by omega)).1]
          refine lv_aload_n hx hb dX10_ringsOf_43 rfl (lv_at hl 5 rfl) ?_
          refine lv_iload hx hb dX10_ringsOf_44 (lv_at hl 0 rfl) ?_
          refine h_callV (n := 1) (ci := 10) (b := mo) (As := [.int (nI (FG s9 + k))]) (rest := [.int (nI (RP (FG s9 + k))), .ref mo]) ⟨hx, hb, hml, hown, hts⟩ hK hw (c_X10_end l D dT ah H3.size mo AR q g hm np X Y hX nr RP RN hRg (FG s9 + k) (by omega)) ko_X10_end km_X10_129 ki_X10_end ks_X10_end kn_X10 (by decide +kernel) rfl hm.1 rfl hl.1 rfl (by simp [Value.category]) dX10_ringsOf_46 (by rw [hR]; exact ⟨rfl, rfl, Nat.le_of_ble_eq_true rfl, Nat.le_of_ble_eq_true rfl, by simp, by simp⟩) (fun r_11 ah_12 H_13 L_14 st_15 hp hw hst => ?_)
          obtain ⟨rfl, rfl⟩ := hp
          have hst : st_15 = [.int (nI (RP (FG s9 + k) + RN (FG s9 + k)) - 1), .int (nI (RP (FG s9 + k))), .ref mo] := hst
          subst hst
          rw [show nI (RP (FG s9 + k) + RN (FG s9 + k)) - 1 = nI (RP (FG s9 + k) + RN (FG s9 + k) - 1) from nI_s _ 1 (by omega)]
          refine h_callV (n := 2) (ci := 10) (b := mo) (As := [.int (nI (RP (FG s9 + k))), .int (nI (RP (FG s9 + k) + RN (FG s9 + k) - 1))]) (rest := []) ⟨hx, hb, hml, hown, hts⟩ hK hw (c_X10_same l D dT ah H_13.size mo AR q g hm np X Y hX (RP (FG s9 + k)) (RP (FG s9 + k) + RN (FG s9 + k) - 1) (by omega) (by omega)) ko_X10_same km_X10_103 ki_X10_same ks_X10_same kn_X10 (by decide +kernel) rfl hm.1 rfl hl.1 rfl (by simp [Value.category]) dX10_ringsOf_49 (by rw [hR]; exact ⟨rfl, rfl, Nat.le_of_ble_eq_true rfl, Nat.le_of_ble_eq_true rfl, by simp, by simp⟩) (fun r_16 ah_17 H_18 L_19 st_20 hp hw hst => ?_)
          obtain ⟨rfl, rfl⟩ := hp
          have hst : st_20 = [.int (bI (smP X Y (RP (FG s9 + k)) (RP (FG s9 + k) + RN (FG s9 + k) - 1)))] := hst
          subst hst
          refine lv_if_ne (tgt := 66) hx hb dX10_ringsOf_52 (by decide) (fun c_21 => ?_) (fun c_21 => ?_)
          · skip
            have c_21 : ¬ (smP X Y (RP (FG s9 + k)) (RP (FG s9 + k) + RN (FG s9 + k) - 1) = false) := (not_congr bI_0).mp c_21
            refine lv_aload_n hx hb dX10_ringsOf_66 rfl (lv_at hl 5 rfl) ?_
            refine lv_aload_n hx hb dX10_ringsOf_67 rfl (lv_at hl 5 rfl) ?_
            refine h_get (ci := 10) (v := .ref (AR 7)) (C := RX10) (T := TX10) (N := 26) hx hb hts kl_X10 hown hK hw hm.1 rfl 12 (by decide) (hts _ kf_X10_31) rfl rfl dX10_ringsOf_68 ?_
            refine lv_iload hx hb dX10_ringsOf_71 (lv_at hl 0 rfl) ?_
            refine h_iald hx hb hK hw (moA_a (n := 4096) (f := g 7) hm 7 (by decide) rfl rfl) (FG s9 + k) rfl (by omega) (by omega) dX10_ringsOf_73 ?_
            rw [show (g 7) (FG s9 + k) = nI (RP (FG s9 + k)) from (hRg.2 _ (by omega)).1]
            refine lv_aload_n hx hb dX10_ringsOf_74 rfl (lv_at hl 5 rfl) ?_
            refine h_get (ci := 10) (v := .ref (AR 8)) (C := RX10) (T := TX10) (N := 26) hx hb hts kl_X10 hown hK hw hm.1 rfl 13 (by decide) (hts _ kf_X10_34) rfl rfl dX10_ringsOf_75 ?_
            refine lv_iload hx hb dX10_ringsOf_78 (lv_at hl 0 rfl) ?_
            refine h_iald hx hb hK hw (moA_a (n := 4096) (f := g 8) hm 8 (by decide) rfl rfl) (FG s9 + k) rfl (by omega) (by omega) dX10_ringsOf_80 ?_
            rw [show (g 8) (FG s9 + k) = nI (RN (FG s9 + k)) from (hRg.2 _ (by omega)).2.1]
            refine lv_iconst (v := 3) hx hb dX10_ringsOf_81 (by decide) ?_
            refine h_callV (n := 3) (ci := 10) (b := mo) (As := [.int (nI (RP (FG s9 + k))), .int (nI (RN (FG s9 + k))), .int (nI 3)]) (rest := []) ⟨hx, hb, hml, hown, hts⟩ hK hw (c_X10_isFew l D dT ah H_18.size mo AR q g hm np X Y hX nr RP RN hRg (RP (FG s9 + k)) (RN (FG s9 + k)) 3 (by omega) (by omega) (by omega)) ko_X10_isFew km_X10_182 ki_X10_isFew ks_X10_isFew kn_X10 (by decide +kernel) rfl hm.1 rfl hl.1 rfl (by simp [Value.category]) dX10_ringsOf_82 (by rw [hR]; exact ⟨rfl, rfl, Nat.le_of_ble_eq_true rfl, Nat.le_of_ble_eq_true rfl, by simp, by simp⟩) (fun r_22 ah_23 H_24 L_25 st_26 hp hw hst => ?_)
            obtain ⟨rfl, rfl⟩ := hp
            have hst : st_26 = [.int (bI (mFew X Y (RP (FG s9 + k)) (RN (FG s9 + k)) 3))] := hst
            subst hst
            refine lv_if_eq (tgt := 99) hx hb dX10_ringsOf_85 (by decide) (fun c_27 => ?_) (fun c_27 => ?_)
            · skip
              have c_27 : mFew X Y (RP (FG s9 + k)) (RN (FG s9 + k)) 3 = false := bI_0.mp c_27
              refine lv_iinc (v := nI (k + 1)) (lv' := [(4, .int (nI (k + 1))), (5, .int (nI (FG s9 + k))), (3, .int pt9), (2, .int sh9), (1, .int (nI s9)), (0, .ref mo)]) hx hb dX10_ringsOf_99 hl (k := 1) rfl (nI_c _ 1) (by decide) rfl (fun ls hl => ?_)
              refine lv_goto (tgt := 3) hx hb dX10_ringsOf_102 (by decide) ?_
              exact ih3 (k + 1) ls _ _ (by omega) (by omega) (lt_o hp3 (rgO_n c_3 c_21 c_27)) (lv_sub hl [0, 2, 3, 4, 5] rfl) hw
            · skip
              have c_27 : ¬ (mFew X Y (RP (FG s9 + k)) (RN (FG s9 + k)) 3 = false) := (not_congr bI_0).mp c_27
              refine lv_aload_n hx hb dX10_ringsOf_88 rfl (lv_at hl 5 rfl) ?_
              refine lv_iconst (v := 2) hx hb dX10_ringsOf_89 (by decide) ?_
              refine lv_iload_n hx hb dX10_ringsOf_90 rfl (lv_at hl 3 rfl) ?_
              refine lv_iload_n hx hb dX10_ringsOf_91 rfl (lv_at hl 2 rfl) ?_
              refine lv_iload hx hb dX10_ringsOf_92 (lv_at hl 1 rfl) ?_
              refine lv_iconst (v := (-1)) hx hb dX10_ringsOf_94 (by decide) ?_
              refine h_callV (n := 5) (ci := 10) (b := mo) (As := [.int 2, .int sh9, .int pt9, .int (nI k), .int (-1)]) (rest := []) ⟨hx, hb, hml, hown, hts⟩ hK hw (c_X10_told l D dT ah H_24.size mo AR q g hm pl hpl 2 sh9 pt9 (nI k) (-1)) ko_X10_told km_X10_178 ki_X10_told ks_X10_told kn_X10 (by decide +kernel) rfl hm.1 rfl hl.1 rfl (by simp [Value.category]) dX10_ringsOf_95 (by rw [hR]; exact ⟨rfl, rfl, Nat.le_of_ble_eq_true rfl, Nat.le_of_ble_eq_true rfl, by simp, by simp⟩) (fun r_29 ah_30 H_31 L_32 st_33 hp hw hst => ?_)
              obtain ⟨rfl, eah_30⟩ := hp
              have hJ_35 : moK dT ah ah_30 mo AR q g q (va_up g 12 (p1 (upd pl 0 sh9) pt9 (nI k) (-1))) := moK_g hJ0 12 (by decide) eah_30
              have hst : st_33 = [.int 2] := hst
              subst hst
              rw [hQ]
              exact h_iret hx hb hr hlk hsz hw (by simp) (by simp) dX10_ringsOf_98 ⟨_, q, (va_up g 12 (p1 (upd pl 0 sh9) pt9 (nI k) (-1))), rfl, hJ_35, (by rw [show firstO (RC s9) (rgO X Y RP RN (FG s9) sh9 pt9 pl) = some (2, p1 (upd pl 0 sh9) pt9 (nI k) (-1)) from firstO_some (i := k) (by omega) (rgO_f c_3 c_21 c_27) hp3]; exact ⟨rfl, (show (0 : Int32) < 2 by decide), rfl⟩)⟩
          · skip
            have c_21 : smP X Y (RP (FG s9 + k)) (RP (FG s9 + k) + RN (FG s9 + k) - 1) = false := bI_0.mp c_21
            refine lv_aload_n hx hb dX10_ringsOf_55 rfl (lv_at hl 5 rfl) ?_
            refine lv_iconst (v := 1) hx hb dX10_ringsOf_56 (by decide) ?_
            refine lv_iload_n hx hb dX10_ringsOf_57 rfl (lv_at hl 3 rfl) ?_
            refine lv_iload_n hx hb dX10_ringsOf_58 rfl (lv_at hl 2 rfl) ?_
            refine lv_iload hx hb dX10_ringsOf_59 (lv_at hl 1 rfl) ?_
            refine lv_iconst (v := (-1)) hx hb dX10_ringsOf_61 (by decide) ?_
            refine h_callV (n := 5) (ci := 10) (b := mo) (As := [.int 1, .int sh9, .int pt9, .int (nI k), .int (-1)]) (rest := []) ⟨hx, hb, hml, hown, hts⟩ hK hw (c_X10_told l D dT ah H_18.size mo AR q g hm pl hpl 1 sh9 pt9 (nI k) (-1)) ko_X10_told km_X10_178 ki_X10_told ks_X10_told kn_X10 (by decide +kernel) rfl hm.1 rfl hl.1 rfl (by simp [Value.category]) dX10_ringsOf_62 (by rw [hR]; exact ⟨rfl, rfl, Nat.le_of_ble_eq_true rfl, Nat.le_of_ble_eq_true rfl, by simp, by simp⟩) (fun r_36 ah_37 H_38 L_39 st_40 hp hw hst => ?_)
            obtain ⟨rfl, eah_37⟩ := hp
            have hJ_42 : moK dT ah ah_37 mo AR q g q (va_up g 12 (p1 (upd pl 0 sh9) pt9 (nI k) (-1))) := moK_g hJ0 12 (by decide) eah_37
            have hst : st_40 = [.int 1] := hst
            subst hst
            rw [hQ]
            exact h_iret hx hb hr hlk hsz hw (by simp) (by simp) dX10_ringsOf_65 ⟨_, q, (va_up g 12 (p1 (upd pl 0 sh9) pt9 (nI k) (-1))), rfl, hJ_42, (by rw [show firstO (RC s9) (rgO X Y RP RN (FG s9) sh9 pt9 pl) = some (1, p1 (upd pl 0 sh9) pt9 (nI k) (-1)) from firstO_some (i := k) (by omega) (rgO_o (Or.inr c_21)) hp3]; exact ⟨rfl, (show (0 : Int32) < 1 by decide), rfl⟩)⟩
  exact LP3 ((RC s9 - 0) + 1) 0 ls _ _ (Nat.lt_succ_self _) (by omega) (fun j hj => absurd hj (Nat.not_lt_zero _)) (lv_sub hl [0, 4, 3, 2, 1] rfl) hw

set_option maxHeartbeats 4000000 in
set_option maxRecDepth 100000 in
theorem c_X10_holesOf (l : Launch) (D : va_G) (dT : Nat → ClassId) (ah : hA) (sz : Nat) (mo : Nat) (AR : Nat → Nat) (q : Nat → Int32) (g : Nat → Nat → Int32) (hm : moA dT ah mo AR q g) (np : Nat) (X Y : Nat → Int32) (hX : moX np g X Y) (nr : Nat) (RP RN : Nat → Nat) (hRg : moR np nr g RP RN) (ns : Nat) (FG RC PF PC : Nat → Nat) (KD WH PA : Nat → Int32) (hS : moS ns np nr g FG RC PF PC KD WH PA) (pl : Nat → Int32) (hpl : g 12 = pl) (s9 : Nat) (hs9 : s9 < ns) (sh9 pt9 : Int32) (hseg : ∀ k, k < RC s9 → ∃ k2, k2 < RN (FG s9 + k) - 1 ∧ mSeg X Y (RP (FG s9 + k) + k2) = true) (hrc : 0 < RC s9) : hMet l yX10_holesOf cX10_holesOf 7 (some .int) ({ frames := 5, cells := 0, slots := 0, locals := 117 }) D dT [.ref mo, .int (nI s9), .int sh9, .int pt9] ah sz (fun r ah2 => moO dT ah ah2 mo AR q g pl (oe (firstO (RC s9) (hoM X Y RP RN (FG s9) sh9 pt9 pl)) (firstO (RC s9) (fun i => firstO (RC s9) (phM X Y RP RN (FG s9) sh9 pt9 pl i)))) r) 0 0 := by
  refine h_met (by decide) (Nat.le_of_ble_eq_true rfl) ?_
  intro p e s m below meth c ls R Q args hav hR hQ hB hl hsz hw
  obtain ⟨hx, hb, hml, hr, hts, hown, hlk, hin, hK⟩ := hB
  have hown : s.vm.findClass RX10 = some m.cls := hown
  have hl : lv_has ls 7 [(0, .ref mo), (1, .int (nI s9)), (2, .int sh9), (3, .int pt9)] := hl
  have hnp := hX.1
  have hnr := hRg.1
  have hns9 := hS.1
  have hJ0 : moK dT ah ah mo AR q g q g := moK_r hm
  have hFR := (hS.2 s9 hs9).2.2.2.2.2.2.2.2
  refine lv_aload_n hx hb dX10_holesOf_0 rfl (lv_at hl 0 rfl) ?_
  refine h_get (ci := 10) (v := .ref (AR 5)) (C := RX10) (T := TX10) (N := 26) hx hb hts kl_X10 hown hK hw hm.1 rfl 10 (by decide) (hts _ kf_X10_25) rfl rfl dX10_holesOf_1 ?_
  refine lv_iload_n hx hb dX10_holesOf_4 rfl (lv_at hl 1 rfl) ?_
  refine h_iald hx hb hK hw (moA_a (n := 2048) (f := g 5) hm 5 (by decide) rfl rfl) s9 rfl (by omega) (by omega) dX10_holesOf_5 ?_
  rw [show (g 5) s9 = nI (FG s9) from (hS.2 _ (by omega)).2.2.2.2.2.1]
  refine lv_istore (lv' := [(4, .int (nI (FG s9))), (0, .ref mo), (1, .int (nI s9)), (2, .int sh9), (3, .int pt9)]) hx hb dX10_holesOf_6 hl (by decide) rfl (fun ls hl => ?_)
  refine lv_iconst (v := 1) hx hb dX10_holesOf_8 (by decide) ?_
  refine lv_istore (lv' := [(5, .int 1), (4, .int (nI (FG s9))), (0, .ref mo), (1, .int (nI s9)), (2, .int sh9), (3, .int pt9)]) hx hb dX10_holesOf_9 hl (by decide) rfl (fun ls hl => ?_)
  have LP11 : ∀ (k11 : Nat) (k : Nat) (ls : Array Slot) (H11 : Heap) (L11 : List Loc), (RC s9 - k < k11) → (k ≤ RC s9) → (1 ≤ k) → (∀ j, j < k → hoM X Y RP RN (FG s9) sh9 pt9 pl j = none) → lv_has ls 7 [(5, .int (nI k)), (4, .int (nI (FG s9))), (3, .int pt9), (2, .int sh9), (1, .int (nI s9)), (0, .ref mo)] → hW D ah s.heap ah H11 L11 → W p l e R s m args below meth c H11 L11 (0) (0) Q (F0 m 11 ls []) := by
    intro k11
    induction k11 with
    | zero => intro k ls H11 L11 hk; exact absurd hk (Nat.not_lt_zero _)
    | succ k11 ih11 =>
      intro k ls H11 L11 hk11 hk11 hk1 hp11 hl hw
      refine lv_iload hx hb dX10_holesOf_11 (lv_at hl 0 rfl) ?_
      refine lv_aload_n hx hb dX10_holesOf_13 rfl (lv_at hl 5 rfl) ?_
      refine h_get (ci := 10) (v := .ref (AR 6)) (C := RX10) (T := TX10) (N := 26) hx hb hts kl_X10 hown hK hw hm.1 rfl 11 (by decide) (hts _ kf_X10_28) rfl rfl dX10_holesOf_14 ?_
      refine lv_iload_n hx hb dX10_holesOf_17 rfl (lv_at hl 4 rfl) ?_
      refine h_iald hx hb hK hw (moA_a (n := 2048) (f := g 6) hm 6 (by decide) rfl rfl) s9 rfl (by omega) (by omega) dX10_holesOf_18 ?_
      rw [show (g 6) s9 = nI (RC s9) from (hS.2 _ (by omega)).2.2.2.2.2.2.1]
      refine lv_icmp_ge (tgt := 54) hx hb dX10_holesOf_19 (by decide) (fun c_1 => ?_) (fun c_1 => ?_)
      · skip
        have c_1 : RC s9 ≤ k := (nI_lex (by rfl) (by rfl) (by omega) (by omega)).mp c_1
        refine lv_iconst (v := 1) hx hb dX10_holesOf_54 (by decide) ?_
        refine lv_istore (lv' := [(5, .int 1), (4, .int (nI (FG s9))), (3, .int pt9), (2, .int sh9), (1, .int (nI s9)), (0, .ref mo)]) hx hb dX10_holesOf_55 hl (by decide) rfl (fun ls hl => ?_)
        have LP57 : ∀ (k57 : Nat) (k2 : Nat) (ls : Array Slot) (H57 : Heap) (L57 : List Loc), (RC s9 - k2 < k57) → (k2 ≤ RC s9) → (1 ≤ k2) → (∀ j, j < k2 → firstO (RC s9) (phM X Y RP RN (FG s9) sh9 pt9 pl j) = none) → lv_has ls 7 [(5, .int (nI k2)), (4, .int (nI (FG s9))), (3, .int pt9), (2, .int sh9), (1, .int (nI s9)), (0, .ref mo)] → hW D ah s.heap ah H57 L57 → W p l e R s m args below meth c H57 L57 (0) (0) Q (F0 m 57 ls []) := by
          intro k57
          induction k57 with
          | zero => intro k2 ls H57 L57 hk; exact absurd hk (Nat.not_lt_zero _)
          | succ k57 ih57 =>
            intro k2 ls H57 L57 hk57 hk57 hk5 hp57 hl hw
            refine lv_iload hx hb dX10_holesOf_57 (lv_at hl 0 rfl) ?_
            refine lv_aload_n hx hb dX10_holesOf_59 rfl (lv_at hl 5 rfl) ?_
            refine h_get (ci := 10) (v := .ref (AR 6)) (C := RX10) (T := TX10) (N := 26) hx hb hts kl_X10 hown hK hw hm.1 rfl 11 (by decide) (hts _ kf_X10_28) rfl rfl dX10_holesOf_60 ?_
            refine lv_iload_n hx hb dX10_holesOf_63 rfl (lv_at hl 4 rfl) ?_
            refine h_iald hx hb hK hw (moA_a (n := 2048) (f := g 6) hm 6 (by decide) rfl rfl) s9 rfl (by omega) (by omega) dX10_holesOf_64 ?_
            rw [show (g 6) s9 = nI (RC s9) from (hS.2 _ (by omega)).2.2.2.2.2.2.1]
            refine lv_icmp_ge (tgt := 151) hx hb dX10_holesOf_65 (by decide) (fun c_2 => ?_) (fun c_2 => ?_)
            · skip
              have c_2 : RC s9 ≤ k2 := (nI_lex (by rfl) (by rfl) (by omega) (by omega)).mp c_2
              refine lv_iconst (v := 0) hx hb dX10_holesOf_151 (by decide) ?_
              rw [hQ]
              exact h_iret hx hb hr hlk hsz hw (by simp) (by simp) dX10_holesOf_152 ⟨_, q, g, rfl, hJ0, (by rw [show oe (firstO (RC s9) (hoM X Y RP RN (FG s9) sh9 pt9 pl)) (firstO (RC s9) (fun i => firstO (RC s9) (phM X Y RP RN (FG s9) sh9 pt9 pl i))) = none from oe_nn (firstO_none (fun j hj => hp11 j (by omega))) (firstO_none (fun j hj => hp57 j (by omega)))]; exact ⟨rfl, hpl⟩)⟩
            · skip
              have c_2 : ¬ (RC s9 ≤ k2) := (not_congr (nI_lex (by rfl) (by rfl) (by omega) (by omega))).mp c_2
              refine lv_iload hx hb dX10_holesOf_68 (lv_at hl 0 rfl) ?_
              refine lv_iconst (v := 1) hx hb dX10_holesOf_70 (by decide) ?_
              refine lv_iadd hx hb dX10_holesOf_71 ?_
              refine lv_topi (fun t_3 et_3 => ?_)
              obtain rfl : t_3 = nI (k2 + 1) := et_3.trans (nI_c _ 1)
              refine lv_istore (lv' := [(6, .int (nI (k2 + 1))), (5, .int (nI k2)), (4, .int (nI (FG s9))), (3, .int pt9), (2, .int sh9), (1, .int (nI s9)), (0, .ref mo)]) hx hb dX10_holesOf_72 hl (by decide) rfl (fun ls hl => ?_)
              have LP74 : ∀ (k74 : Nat) (j : Nat) (ls : Array Slot) (H74 : Heap) (L74 : List Loc), (RC s9 - j < k74) → (k2 + 1 ≤ j) → (j ≤ RC s9) → (∀ i, i < j → phM X Y RP RN (FG s9) sh9 pt9 pl k2 i = none) → lv_has ls 7 [(6, .int (nI j)), (5, .int (nI k2)), (4, .int (nI (FG s9))), (3, .int pt9), (2, .int sh9), (1, .int (nI s9)), (0, .ref mo)] → hW D ah s.heap ah H74 L74 → W p l e R s m args below meth c H74 L74 (0) (0) Q (F0 m 74 ls []) := by
                intro k74
                induction k74 with
                | zero => intro j ls H74 L74 hk; exact absurd hk (Nat.not_lt_zero _)
                | succ k74 ih74 =>
                  intro j ls H74 L74 hk74 hj74 hj75 hp74 hl hw
                  refine lv_iload hx hb dX10_holesOf_74 (lv_at hl 0 rfl) ?_
                  refine lv_aload_n hx hb dX10_holesOf_76 rfl (lv_at hl 6 rfl) ?_
                  refine h_get (ci := 10) (v := .ref (AR 6)) (C := RX10) (T := TX10) (N := 26) hx hb hts kl_X10 hown hK hw hm.1 rfl 11 (by decide) (hts _ kf_X10_28) rfl rfl dX10_holesOf_77 ?_
                  refine lv_iload_n hx hb dX10_holesOf_80 rfl (lv_at hl 5 rfl) ?_
                  refine h_iald hx hb hK hw (moA_a (n := 2048) (f := g 6) hm 6 (by decide) rfl rfl) s9 rfl (by omega) (by omega) dX10_holesOf_81 ?_
                  rw [show (g 6) s9 = nI (RC s9) from (hS.2 _ (by omega)).2.2.2.2.2.2.1]
                  refine lv_icmp_ge (tgt := 145) hx hb dX10_holesOf_82 (by decide) (fun c_4 => ?_) (fun c_4 => ?_)
                  · skip
                    have c_4 : RC s9 ≤ j := (nI_lex (by rfl) (by rfl) (by omega) (by omega)).mp c_4
                    refine lv_iinc (v := nI (k2 + 1)) (lv' := [(5, .int (nI (k2 + 1))), (6, .int (nI j)), (4, .int (nI (FG s9))), (3, .int pt9), (2, .int sh9), (1, .int (nI s9)), (0, .ref mo)]) hx hb dX10_holesOf_145 hl (k := 1) rfl (nI_c _ 1) (by decide) rfl (fun ls hl => ?_)
                    refine lv_goto (tgt := 57) hx hb dX10_holesOf_148 (by decide) ?_
                    exact ih57 (k2 + 1) ls _ _ (by omega) (by omega) (by omega) (lt_o hp57 (firstO_none (fun j hj => hp74 j (by omega)))) (lv_sub hl [0, 2, 3, 4, 5, 6] rfl) hw
                  · skip
                    have c_4 : ¬ (RC s9 ≤ j) := (not_congr (nI_lex (by rfl) (by rfl) (by omega) (by omega))).mp c_4
                    refine lv_aload_n hx hb dX10_holesOf_85 rfl (lv_at hl 6 rfl) ?_
                    refine lv_iload hx hb dX10_holesOf_86 (lv_at hl 2 rfl) ?_
                    refine lv_iload hx hb dX10_holesOf_88 (lv_at hl 1 rfl) ?_
                    refine lv_iadd hx hb dX10_holesOf_90 ?_
                    refine lv_topi (fun t_6 et_6 => ?_)
                    obtain rfl : t_6 = nI (FG s9 + k2) := et_6.trans (nI_add _ _)
                    refine lv_iload hx hb dX10_holesOf_91 (lv_at hl 2 rfl) ?_
                    refine lv_iload hx hb dX10_holesOf_93 (lv_at hl 0 rfl) ?_
                    refine lv_iadd hx hb dX10_holesOf_95 ?_
                    refine lv_topi (fun t_7 et_7 => ?_)
                    obtain rfl : t_7 = nI (FG s9 + j) := et_7.trans (nI_add _ _)
                    refine h_callV (n := 2) (ci := 10) (b := mo) (As := [.int (nI (FG s9 + k2)), .int (nI (FG s9 + j))]) (rest := []) ⟨hx, hb, hml, hown, hts⟩ hK hw (c_X10_liesIn l D dT ah H74.size mo AR q g hm np X Y hX nr RP RN hRg (FG s9 + k2) (FG s9 + j) (by omega) (by omega) (hseg k2 (by omega))) ko_X10_liesIn km_X10_192 ki_X10_liesIn ks_X10_liesIn kn_X10 (by decide +kernel) rfl hm.1 rfl hl.1 rfl (by simp [Value.category]) dX10_holesOf_96 (by rw [hR]; exact ⟨rfl, rfl, Nat.le_of_ble_eq_true rfl, Nat.le_of_ble_eq_true rfl, by simp, by simp⟩) (fun r_8 ah_9 H_10 L_11 st_12 hp hw hst => ?_)
                    obtain ⟨rfl, rfl⟩ := hp
                    have hst : st_12 = [.int (bI (mIn X Y RP RN (FG s9 + k2) (FG s9 + j)))] := hst
                    subst hst
                    refine lv_if_ne (tgt := 119) hx hb dX10_holesOf_99 (by decide) (fun c_13 => ?_) (fun c_13 => ?_)
                    · skip
                      have c_13 : ¬ (mIn X Y RP RN (FG s9 + k2) (FG s9 + j) = false) := (not_congr bI_0).mp c_13
                      refine lv_aload_n hx hb dX10_holesOf_119 rfl (lv_at hl 6 rfl) ?_
                      refine lv_iload_n hx hb dX10_holesOf_120 rfl (lv_at hl 3 rfl) ?_
                      refine lv_iload hx hb dX10_holesOf_121 (lv_at hl 0 rfl) ?_
                      refine lv_iconst (v := (-1)) hx hb dX10_holesOf_123 (by decide) ?_
                      refine h_callV (n := 3) (ci := 10) (b := mo) (As := [.int pt9, .int (nI j), .int (-1)]) (rest := []) ⟨hx, hb, hml, hown, hts⟩ hK hw (c_X10_other l D dT ah H_10.size mo AR q g hm pl hpl pt9 (nI j) (-1)) ko_X10_other km_X10_188 ki_X10_other ks_X10_other kn_X10 (by decide +kernel) rfl hm.1 rfl hl.1 rfl (by simp [Value.category]) dX10_holesOf_124 (by rw [hR]; exact ⟨rfl, rfl, Nat.le_of_ble_eq_true rfl, Nat.le_of_ble_eq_true rfl, by simp, by simp⟩) (fun r_14 ah_15 H_16 L_17 st_18 hp hw hst => ?_)
                      obtain ⟨rfl, eah_15⟩ := hp
                      have hJ_20 : moK dT ah ah_15 mo AR q g q (va_up g 12 (p2 pl pt9 (nI j) (-1))) := moK_g hJ0 12 (by decide) eah_15
                      have hst : st_18 = [] := hst
                      subst hst
                      refine lv_aload_n hx hb dX10_holesOf_127 rfl (lv_at hl 6 rfl) ?_
                      refine lv_bipush (v := 7) hx hb dX10_holesOf_128 (by decide) ?_
                      refine lv_iload_n hx hb dX10_holesOf_130 rfl (lv_at hl 4 rfl) ?_
                      refine lv_iload_n hx hb dX10_holesOf_131 rfl (lv_at hl 3 rfl) ?_
                      refine lv_iload hx hb dX10_holesOf_132 (lv_at hl 1 rfl) ?_
                      refine lv_iconst (v := (-1)) hx hb dX10_holesOf_134 (by decide) ?_
                      refine h_callV (n := 5) (ci := 10) (b := mo) (As := [.int 7, .int sh9, .int pt9, .int (nI k2), .int (-1)]) (rest := []) ⟨hx, hb, hml, hown, hts⟩ hK hw (c_X10_told l D dT ah_15 H_16.size mo AR q (va_up g 12 (p2 pl pt9 (nI j) (-1))) hJ_20.1 (p2 pl pt9 (nI j) (-1)) rfl 7 sh9 pt9 (nI k2) (-1)) ko_X10_told km_X10_178 ki_X10_told ks_X10_told kn_X10 (by decide +kernel) rfl hJ_20.1.1 rfl hl.1 rfl (by simp [Value.category]) dX10_holesOf_135 (by rw [hR]; exact ⟨rfl, rfl, Nat.le_of_ble_eq_true rfl, Nat.le_of_ble_eq_true rfl, by simp, by simp⟩) (fun r_21 ah_22 H_23 L_24 st_25 hp hw hst => ?_)
                      obtain ⟨rfl, eah_22⟩ := hp
                      have hJ_27 : moK dT ah ah_22 mo AR q g q (va_up (va_up g 12 (p2 pl pt9 (nI j) (-1))) 12 (p1 (upd (p2 pl pt9 (nI j) (-1)) 0 sh9) pt9 (nI k2) (-1))) := moK_g hJ_20 12 (by decide) eah_22
                      have hst : st_25 = [.int 7] := hst
                      subst hst
                      rw [hQ]
                      exact h_iret hx hb hr hlk hsz hw (by simp) (by simp) dX10_holesOf_138 ⟨_, q, (va_up (va_up g 12 (p2 pl pt9 (nI j) (-1))) 12 (p1 (upd (p2 pl pt9 (nI j) (-1)) 0 sh9) pt9 (nI k2) (-1))), rfl, hJ_27, (by rw [show oe (firstO (RC s9) (hoM X Y RP RN (FG s9) sh9 pt9 pl)) (firstO (RC s9) (fun i => firstO (RC s9) (phM X Y RP RN (FG s9) sh9 pt9 pl i))) = some (7, p2 (p1 (upd pl 0 sh9) pt9 (nI k2) (-1)) pt9 (nI j) (-1)) from (oe_n0 (firstO_none (fun j hj => hp11 j (by omega)))).trans (firstO_some (i := k2) (by omega) (firstO_some (i := j) (by omega) (phM_s hk5 hj74 (Or.inl c_13)) hp74) hp57)]; exact ⟨rfl, (show (0 : Int32) < 7 by decide), pp_c⟩)⟩
                    · skip
                      have c_13 : mIn X Y RP RN (FG s9 + k2) (FG s9 + j) = false := bI_0.mp c_13
                      refine lv_aload_n hx hb dX10_holesOf_102 rfl (lv_at hl 6 rfl) ?_
                      refine lv_iload hx hb dX10_holesOf_103 (lv_at hl 2 rfl) ?_
                      refine lv_iload hx hb dX10_holesOf_105 (lv_at hl 0 rfl) ?_
                      refine lv_iadd hx hb dX10_holesOf_107 ?_
                      refine lv_topi (fun t_28 et_28 => ?_)
                      obtain rfl : t_28 = nI (FG s9 + j) := et_28.trans (nI_add _ _)
                      refine lv_iload hx hb dX10_holesOf_108 (lv_at hl 2 rfl) ?_
                      refine lv_iload hx hb dX10_holesOf_110 (lv_at hl 1 rfl) ?_
                      refine lv_iadd hx hb dX10_holesOf_112 ?_
                      refine lv_topi (fun t_29 et_29 => ?_)
                      obtain rfl : t_29 = nI (FG s9 + k2) := et_29.trans (nI_add _ _)
                      refine h_callV (n := 2) (ci := 10) (b := mo) (As := [.int (nI (FG s9 + j)), .int (nI (FG s9 + k2))]) (rest := []) ⟨hx, hb, hml, hown, hts⟩ hK hw (c_X10_liesIn l D dT ah H_10.size mo AR q g hm np X Y hX nr RP RN hRg (FG s9 + j) (FG s9 + k2) (by omega) (by omega) (hseg j (by omega))) ko_X10_liesIn km_X10_192 ki_X10_liesIn ks_X10_liesIn kn_X10 (by decide +kernel) rfl hm.1 rfl hl.1 rfl (by simp [Value.category]) dX10_holesOf_113 (by rw [hR]; exact ⟨rfl, rfl, Nat.le_of_ble_eq_true rfl, Nat.le_of_ble_eq_true rfl, by simp, by simp⟩) (fun r_30 ah_31 H_32 L_33 st_34 hp hw hst => ?_)
                      obtain ⟨rfl, rfl⟩ := hp
                      have hst : st_34 = [.int (bI (mIn X Y RP RN (FG s9 + j) (FG s9 + k2)))] := hst
                      subst hst
                      refine lv_if_eq (tgt := 139) hx hb dX10_holesOf_116 (by decide) (fun c_35 => ?_) (fun c_35 => ?_)
                      · skip
                        have c_35 : mIn X Y RP RN (FG s9 + j) (FG s9 + k2) = false := bI_0.mp c_35
                        refine lv_iinc (v := nI (j + 1)) (lv' := [(6, .int (nI (j + 1))), (5, .int (nI k2)), (4, .int (nI (FG s9))), (3, .int pt9), (2, .int sh9), (1, .int (nI s9)), (0, .ref mo)]) hx hb dX10_holesOf_139 hl (k := 0) rfl (nI_c _ 1) (by decide) rfl (fun ls hl => ?_)
                        refine lv_goto (tgt := 74) hx hb dX10_holesOf_142 (by decide) ?_
                        refine W.widen (k := 0) (n := 0) (by omega) (by omega) ?_
                        exact ih74 (j + 1) ls _ _ (by omega) (by omega) (by omega) (lt_o hp74 (phM_n c_13 c_35)) (lv_sub hl [0, 1, 2, 3, 4, 5, 6] rfl) hw
                      · skip
                        have c_35 : ¬ (mIn X Y RP RN (FG s9 + j) (FG s9 + k2) = false) := (not_congr bI_0).mp c_35
                        refine lv_aload_n hx hb dX10_holesOf_119 rfl (lv_at hl 6 rfl) ?_
                        refine lv_iload_n hx hb dX10_holesOf_120 rfl (lv_at hl 3 rfl) ?_
                        refine lv_iload hx hb dX10_holesOf_121 (lv_at hl 0 rfl) ?_
                        refine lv_iconst (v := (-1)) hx hb dX10_holesOf_123 (by decide) ?_
                        refine h_callV (n := 3) (ci := 10) (b := mo) (As := [.int pt9, .int (nI j), .int (-1)]) (rest := []) ⟨hx, hb, hml, hown, hts⟩ hK hw (c_X10_other l D dT ah H_32.size mo AR q g hm pl hpl pt9 (nI j) (-1)) ko_X10_other km_X10_188 ki_X10_other ks_X10_other kn_X10 (by decide +kernel) rfl hm.1 rfl hl.1 rfl (by simp [Value.category]) dX10_holesOf_124 (by rw [hR]; exact ⟨rfl, rfl, Nat.le_of_ble_eq_true rfl, Nat.le_of_ble_eq_true rfl, by simp, by simp⟩) (fun r_37 ah_38 H_39 L_40 st_41 hp hw hst => ?_)
                        obtain ⟨rfl, eah_38⟩ := hp
                        have hJ_43 : moK dT ah ah_38 mo AR q g q (va_up g 12 (p2 pl pt9 (nI j) (-1))) := moK_g hJ0 12 (by decide) eah_38
                        have hst : st_41 = [] := hst
                        subst hst
                        refine lv_aload_n hx hb dX10_holesOf_127 rfl (lv_at hl 6 rfl) ?_
                        refine lv_bipush (v := 7) hx hb dX10_holesOf_128 (by decide) ?_
                        refine lv_iload_n hx hb dX10_holesOf_130 rfl (lv_at hl 4 rfl) ?_
                        refine lv_iload_n hx hb dX10_holesOf_131 rfl (lv_at hl 3 rfl) ?_
                        refine lv_iload hx hb dX10_holesOf_132 (lv_at hl 1 rfl) ?_
                        refine lv_iconst (v := (-1)) hx hb dX10_holesOf_134 (by decide) ?_
                        refine h_callV (n := 5) (ci := 10) (b := mo) (As := [.int 7, .int sh9, .int pt9, .int (nI k2), .int (-1)]) (rest := []) ⟨hx, hb, hml, hown, hts⟩ hK hw (c_X10_told l D dT ah_38 H_39.size mo AR q (va_up g 12 (p2 pl pt9 (nI j) (-1))) hJ_43.1 (p2 pl pt9 (nI j) (-1)) rfl 7 sh9 pt9 (nI k2) (-1)) ko_X10_told km_X10_178 ki_X10_told ks_X10_told kn_X10 (by decide +kernel) rfl hJ_43.1.1 rfl hl.1 rfl (by simp [Value.category]) dX10_holesOf_135 (by rw [hR]; exact ⟨rfl, rfl, Nat.le_of_ble_eq_true rfl, Nat.le_of_ble_eq_true rfl, by simp, by simp⟩) (fun r_44 ah_45 H_46 L_47 st_48 hp hw hst => ?_)
                        obtain ⟨rfl, eah_45⟩ := hp
                        have hJ_50 : moK dT ah ah_45 mo AR q g q (va_up (va_up g 12 (p2 pl pt9 (nI j) (-1))) 12 (p1 (upd (p2 pl pt9 (nI j) (-1)) 0 sh9) pt9 (nI k2) (-1))) := moK_g hJ_43 12 (by decide) eah_45
                        have hst : st_48 = [.int 7] := hst
                        subst hst
                        rw [hQ]
                        exact h_iret hx hb hr hlk hsz hw (by simp) (by simp) dX10_holesOf_138 ⟨_, q, (va_up (va_up g 12 (p2 pl pt9 (nI j) (-1))) 12 (p1 (upd (p2 pl pt9 (nI j) (-1)) 0 sh9) pt9 (nI k2) (-1))), rfl, hJ_50, (by rw [show oe (firstO (RC s9) (hoM X Y RP RN (FG s9) sh9 pt9 pl)) (firstO (RC s9) (fun i => firstO (RC s9) (phM X Y RP RN (FG s9) sh9 pt9 pl i))) = some (7, p2 (p1 (upd pl 0 sh9) pt9 (nI k2) (-1)) pt9 (nI j) (-1)) from (oe_n0 (firstO_none (fun j hj => hp11 j (by omega)))).trans (firstO_some (i := k2) (by omega) (firstO_some (i := j) (by omega) (phM_s hk5 hj74 (Or.inr c_35)) hp74) hp57)]; exact ⟨rfl, (show (0 : Int32) < 7 by decide), pp_c⟩)⟩
              exact LP74 ((RC s9 - (k2 + 1)) + 1) (k2 + 1) ls _ _ (Nat.lt_succ_self _) (by omega) (by omega) (fun i hi => phM_l hi) (lv_sub hl [0, 1, 2, 3, 4, 5, 6] rfl) hw
        exact LP57 ((RC s9 - 1) + 1) 1 ls _ _ (Nat.lt_succ_self _) (by omega) (by omega) (fun j hj => firstO_none (fun i hi => if_pos (show j < 1 by omega))) (lv_sub hl [0, 1, 2, 3, 4, 5] rfl) hw
      · skip
        have c_1 : ¬ (RC s9 ≤ k) := (not_congr (nI_lex (by rfl) (by rfl) (by omega) (by omega))).mp c_1
        refine lv_aload_n hx hb dX10_holesOf_22 rfl (lv_at hl 5 rfl) ?_
        refine lv_iload hx hb dX10_holesOf_23 (lv_at hl 1 rfl) ?_
        refine lv_iload hx hb dX10_holesOf_25 (lv_at hl 0 rfl) ?_
        refine lv_iadd hx hb dX10_holesOf_27 ?_
        refine lv_topi (fun t_51 et_51 => ?_)
        obtain rfl : t_51 = nI (FG s9 + k) := et_51.trans (nI_add _ _)
        refine lv_iload hx hb dX10_holesOf_28 (lv_at hl 1 rfl) ?_
        refine h_callV (n := 2) (ci := 10) (b := mo) (As := [.int (nI (FG s9 + k)), .int (nI (FG s9))]) (rest := []) ⟨hx, hb, hml, hown, hts⟩ hK hw (c_X10_liesIn l D dT ah H11.size mo AR q g hm np X Y hX nr RP RN hRg (FG s9 + k) (FG s9) (by omega) (by omega) (hseg k (by omega))) ko_X10_liesIn km_X10_192 ki_X10_liesIn ks_X10_liesIn kn_X10 (by decide +kernel) rfl hm.1 rfl hl.1 rfl (by simp [Value.category]) dX10_holesOf_30 (by rw [hR]; exact ⟨rfl, rfl, Nat.le_of_ble_eq_true rfl, Nat.le_of_ble_eq_true rfl, by simp, by simp⟩) (fun r_52 ah_53 H_54 L_55 st_56 hp hw hst => ?_)
        obtain ⟨rfl, rfl⟩ := hp
        have hst : st_56 = [.int (bI (mIn X Y RP RN (FG s9 + k) (FG s9)))] := hst
        subst hst
        refine lv_if_ne (tgt := 48) hx hb dX10_holesOf_33 (by decide) (fun c_57 => ?_) (fun c_57 => ?_)
        · skip
          have c_57 : ¬ (mIn X Y RP RN (FG s9 + k) (FG s9) = false) := (not_congr bI_0).mp c_57
          refine lv_iinc (v := nI (k + 1)) (lv' := [(5, .int (nI (k + 1))), (4, .int (nI (FG s9))), (3, .int pt9), (2, .int sh9), (1, .int (nI s9)), (0, .ref mo)]) hx hb dX10_holesOf_48 hl (k := 0) rfl (nI_c _ 1) (by decide) rfl (fun ls hl => ?_)
          refine lv_goto (tgt := 11) hx hb dX10_holesOf_51 (by decide) ?_
          refine W.widen (k := 0) (n := 0) (by omega) (by omega) ?_
          exact ih11 (k + 1) ls _ _ (by omega) (by omega) (by omega) (lt_o hp11 (hoM_n c_57)) (lv_sub hl [0, 1, 2, 3, 4, 5] rfl) hw
        · skip
          have c_57 : mIn X Y RP RN (FG s9 + k) (FG s9) = false := bI_0.mp c_57
          refine lv_aload_n hx hb dX10_holesOf_36 rfl (lv_at hl 5 rfl) ?_
          refine lv_bipush (v := 6) hx hb dX10_holesOf_37 (by decide) ?_
          refine lv_iload_n hx hb dX10_holesOf_39 rfl (lv_at hl 3 rfl) ?_
          refine lv_iload_n hx hb dX10_holesOf_40 rfl (lv_at hl 2 rfl) ?_
          refine lv_iload hx hb dX10_holesOf_41 (lv_at hl 0 rfl) ?_
          refine lv_iconst (v := (-1)) hx hb dX10_holesOf_43 (by decide) ?_
          refine h_callV (n := 5) (ci := 10) (b := mo) (As := [.int 6, .int sh9, .int pt9, .int (nI k), .int (-1)]) (rest := []) ⟨hx, hb, hml, hown, hts⟩ hK hw (c_X10_told l D dT ah H_54.size mo AR q g hm pl hpl 6 sh9 pt9 (nI k) (-1)) ko_X10_told km_X10_178 ki_X10_told ks_X10_told kn_X10 (by decide +kernel) rfl hm.1 rfl hl.1 rfl (by simp [Value.category]) dX10_holesOf_44 (by rw [hR]; exact ⟨rfl, rfl, Nat.le_of_ble_eq_true rfl, Nat.le_of_ble_eq_true rfl, by simp, by simp⟩) (fun r_59 ah_60 H_61 L_62 st_63 hp hw hst => ?_)
          obtain ⟨rfl, eah_60⟩ := hp
          have hJ_65 : moK dT ah ah_60 mo AR q g q (va_up g 12 (p1 (upd pl 0 sh9) pt9 (nI k) (-1))) := moK_g hJ0 12 (by decide) eah_60
          have hst : st_63 = [.int 6] := hst
          subst hst
          rw [hQ]
          exact h_iret hx hb hr hlk hsz hw (by simp) (by simp) dX10_holesOf_47 ⟨_, q, (va_up g 12 (p1 (upd pl 0 sh9) pt9 (nI k) (-1))), rfl, hJ_65, (by rw [show oe (firstO (RC s9) (hoM X Y RP RN (FG s9) sh9 pt9 pl)) (firstO (RC s9) (fun i => firstO (RC s9) (phM X Y RP RN (FG s9) sh9 pt9 pl i))) = some (6, p1 (upd pl 0 sh9) pt9 (nI k) (-1)) from oe_s (firstO_some (i := k) (by omega) (hoM_s hk1 c_57) hp11)]; exact ⟨rfl, (show (0 : Int32) < 6 by decide), rfl⟩)⟩
  exact LP11 ((RC s9 - 1) + 1) 1 ls _ _ (Nat.lt_succ_self _) (by omega) (by omega) (fun j hj => if_pos hj) (lv_sub hl [0, 1, 5, 4, 3, 2] rfl) hw

set_option maxHeartbeats 4000000 in
set_option maxRecDepth 100000 in
theorem c_X10_isFirst (l : Launch) (D : va_G) (dT : Nat → ClassId) (ah : hA) (sz : Nat) (mo : Nat) (AR : Nat → Nat) (q : Nat → Int32) (g : Nat → Nat → Int32) (hm : moA dT ah mo AR q g) (np : Nat) (X Y : Nat → Int32) (hX : moX np g X Y) (pq fr : Nat) (hpq : pq < np) (hfr : fr ≤ pq) : hMet l yX10_isFirst cX10_isFirst 5 (some .boolean) ({ frames := 1, cells := 0, slots := 0, locals := 22 }) D dT [.ref mo, .int (nI pq), .int (nI fr)] ah sz (fun r ah2 => r = some (.int (bI (mFst X Y pq fr))) ∧ ah = ah2) 0 0 := by
  refine h_met (by decide) (Nat.le_of_ble_eq_true rfl) ?_
  intro p e s m below meth c ls R Q args hav hR hQ hB hl hsz hw
  obtain ⟨hx, hb, hml, hr, hts, hown, hlk, hin, hK⟩ := hB
  have hown : s.vm.findClass RX10 = some m.cls := hown
  have hl : lv_has ls 5 [(0, .ref mo), (1, .int (nI pq)), (2, .int (nI fr))] := hl
  have hnp := hX.1
  refine lv_iconst (v := 1) hx hb dX10_isFirst_0 (by decide) ?_
  refine lv_istore_n (lv' := [(3, .int 1), (0, .ref mo), (1, .int (nI pq)), (2, .int (nI fr))]) hx hb dX10_isFirst_1 rfl hl (by decide) rfl (fun ls hl => ?_)
  refine lv_iload_n hx hb dX10_isFirst_2 rfl (lv_at hl 3 rfl) ?_
  refine lv_istore (lv' := [(4, .int (nI fr)), (3, .int 1), (0, .ref mo), (1, .int (nI pq)), (2, .int (nI fr))]) hx hb dX10_isFirst_3 hl (by decide) rfl (fun ls hl => ?_)
  have LP5 : ∀ (k5 : Nat) (i : Nat) (ls : Array Slot) (H5 : Heap) (L5 : List Loc), (pq - i < k5) → (fr + i ≤ pq) → lv_has ls 5 [(4, .int (nI (fr + i))), (3, .int (bI (!anyB i (fun i9 => smP X Y (fr + i9) pq)))), (2, .int (nI fr)), (1, .int (nI pq)), (0, .ref mo)] → hW D ah s.heap ah H5 L5 → W p l e R s m args below meth c H5 L5 (0) (0) Q (F0 m 5 ls []) := by
    intro k5
    induction k5 with
    | zero => intro i ls H5 L5 hk; exact absurd hk (Nat.not_lt_zero _)
    | succ k5 ih5 =>
      intro i ls H5 L5 hk5 hi5 hl hw
      refine lv_iload hx hb dX10_isFirst_5 (lv_at hl 0 rfl) ?_
      refine lv_iload_n hx hb dX10_isFirst_7 rfl (lv_at hl 3 rfl) ?_
      refine lv_icmp_ge (tgt := 37) hx hb dX10_isFirst_8 (by decide) (fun c_1 => ?_) (fun c_1 => ?_)
      · skip
        have c_1 : pq ≤ fr + i := (nI_lex (by rfl) (by rfl) (by omega) (by omega)).mp c_1
        refine lv_iload_n hx hb dX10_isFirst_37 rfl (lv_at hl 1 rfl) ?_
        rw [hQ]
        exact h_zret hx hb hr hlk hsz hw (by simp) (by simp) dX10_isFirst_38 (bI_01 _) ⟨congrArg (fun z => some (Value.int (bI z))) (congrArg (fun z => !anyB z (fun i9 => smP X Y (fr + i9) pq)) (show i = pq - fr by omega)), rfl⟩
      · skip
        have c_1 : ¬ (pq ≤ fr + i) := (not_congr (nI_lex (by rfl) (by rfl) (by omega) (by omega))).mp c_1
        refine lv_iload_n hx hb dX10_isFirst_11 rfl (lv_at hl 1 rfl) ?_
        refine lv_if_eq (tgt := 37) hx hb dX10_isFirst_12 (by decide) (fun c_2 => ?_) (fun c_2 => ?_)
        · skip
          have c_2 : (!anyB i (fun i9 => smP X Y (fr + i9) pq)) = false := bI_0.mp c_2
          refine lv_iload_n hx hb dX10_isFirst_37 rfl (lv_at hl 1 rfl) ?_
          rw [hQ]
          exact h_zret hx hb hr hlk hsz hw (by simp) (by simp) dX10_isFirst_38 (bI_01 _) ⟨congrArg (fun z => some (Value.int (bI z))) (mFst_u (by omega) c_2), rfl⟩
        · skip
          have c_2 : ¬ ((!anyB i (fun i9 => smP X Y (fr + i9) pq)) = false) := (not_congr bI_0).mp c_2
          refine lv_aload_n hx hb dX10_isFirst_15 rfl (lv_at hl 4 rfl) ?_
          refine lv_iload hx hb dX10_isFirst_16 (lv_at hl 0 rfl) ?_
          refine lv_iload_n hx hb dX10_isFirst_18 rfl (lv_at hl 3 rfl) ?_
          refine h_callV (n := 2) (ci := 10) (b := mo) (As := [.int (nI (fr + i)), .int (nI pq)]) (rest := []) ⟨hx, hb, hml, hown, hts⟩ hK hw (c_X10_same l D dT ah H5.size mo AR q g hm np X Y hX (fr + i) pq (by omega) (by omega)) ko_X10_same km_X10_103 ki_X10_same ks_X10_same kn_X10 (by decide +kernel) rfl hm.1 rfl hl.1 rfl (by simp [Value.category]) dX10_isFirst_19 (by rw [hR]; exact ⟨rfl, rfl, Nat.le_of_ble_eq_true rfl, Nat.le_of_ble_eq_true rfl, by simp, by simp⟩) (fun r_3 ah_4 H_5 L_6 st_7 hp hw hst => ?_)
          obtain ⟨rfl, rfl⟩ := hp
          have hst : st_7 = [.int (bI (smP X Y (fr + i) pq))] := hst
          subst hst
          have J_10 : ∀ (v_9 : Int32) (ls : Array Slot), lv_has ls 5 [(4, .int (nI (fr + i))), (3, .int (bI (!anyB i (fun i9 => smP X Y (fr + i9) pq)))), (2, .int (nI fr)), (1, .int (nI pq)), (0, .ref mo)] → v_9 = (if smP X Y (fr + i) pq = false then 1 else 0) → W p l e R s m args below meth c H_5 L_6 (0) (0) Q (F0 m 30 ls [.int v_9]) := by
            intro v_9 ls hl ev_9
            have hv9 : v_9 = bI (!anyB (i + 1) (fun i9 => smP X Y (fr + i9) pq)) := ev_9.trans (fst_e (f := fun i9 => smP X Y (fr + i9) pq) c_2)
            subst hv9
            refine lv_istore_n (lv' := [(3, .int (bI (!anyB (i + 1) (fun i9 => smP X Y (fr + i9) pq)))), (4, .int (nI (fr + i))), (2, .int (nI fr)), (1, .int (nI pq)), (0, .ref mo)]) hx hb dX10_isFirst_30 rfl hl (by decide) rfl (fun ls hl => ?_)
            refine lv_iinc (v := nI (fr + i + 1)) (lv' := [(4, .int (nI (fr + i + 1))), (3, .int (bI (!anyB (i + 1) (fun i9 => smP X Y (fr + i9) pq)))), (2, .int (nI fr)), (1, .int (nI pq)), (0, .ref mo)]) hx hb dX10_isFirst_31 hl (k := 1) rfl (nI_c _ 1) (by decide) rfl (fun ls hl => ?_)
            refine lv_goto (tgt := 5) hx hb dX10_isFirst_34 (by decide) ?_
            exact ih5 (i + 1) ls _ _ (by omega) (by omega) (lv_sub hl [0, 1, 2, 3, 4] rfl) hw
          refine lv_if_ne (tgt := 29) hx hb dX10_isFirst_22 (by decide) (fun c_8 => ?_) (fun c_8 => ?_)
          · skip
            have c_8 : ¬ (smP X Y (fr + i) pq = false) := (not_congr bI_0).mp c_8
            refine lv_iconst (v := 0) hx hb dX10_isFirst_29 (by decide) ?_
            exact J_10 0 ls (lv_sub hl [0, 1, 2, 3, 4] rfl) (by rw [if_neg c_8])
          · skip
            have c_8 : smP X Y (fr + i) pq = false := bI_0.mp c_8
            refine lv_iconst (v := 1) hx hb dX10_isFirst_25 (by decide) ?_
            refine lv_goto (tgt := 30) hx hb dX10_isFirst_26 (by decide) ?_
            exact J_10 1 ls (lv_sub hl [0, 1, 2, 3, 4] rfl) (by rw [if_pos c_8])
  exact LP5 ((pq - 0) + 1) 0 ls _ _ (Nat.lt_succ_self _) (by omega) (lv_sub hl [0, 1, 4, 3, 2] rfl) hw

def mPart (WH : Nat → Int32) (RC : Nat → Nat) (s9 w9 : Nat) : Bool := (if WH s9 = nI w9 then (if RC s9 ≤ 0 then false else true) else false)
set_option maxHeartbeats 4000000 in
set_option maxRecDepth 100000 in
theorem c_X10_isPart (l : Launch) (D : va_G) (dT : Nat → ClassId) (ah : hA) (sz : Nat) (mo : Nat) (AR : Nat → Nat) (q : Nat → Int32) (g : Nat → Nat → Int32) (hm : moA dT ah mo AR q g) (np : Nat) (X Y : Nat → Int32) (hX : moX np g X Y) (nr : Nat) (RP RN : Nat → Nat) (hRg : moR np nr g RP RN) (ns : Nat) (FG RC PF PC : Nat → Nat) (KD WH PA : Nat → Int32) (hS : moS ns np nr g FG RC PF PC KD WH PA) (s9 w9 : Nat) (hs9 : s9 < ns) : hMet l yX10_isPart cX10_isPart 3 (some .boolean) ({ frames := 0, cells := 0, slots := 0, locals := 0 }) D dT [.ref mo, .int (nI s9), .int (nI w9)] ah sz (fun r ah2 => r = some (.int (bI (mPart WH RC s9 w9))) ∧ ah = ah2) 0 0 := by
  refine h_met (by decide) (Nat.le_of_ble_eq_true rfl) ?_
  intro p e s m below meth c ls R Q args hav hR hQ hB hl hsz hw
  obtain ⟨hx, hb, hml, hr, hts, hown, hlk, hin, hK⟩ := hB
  have hown : s.vm.findClass RX10 = some m.cls := hown
  have hl : lv_has ls 3 [(0, .ref mo), (1, .int (nI s9)), (2, .int (nI w9))] := hl
  have hnp := hX.1
  have hnr := hRg.1
  have hns9 := hS.1
  have hFR := (hS.2 s9 hs9).2.2.2.2.2.2.2.2
  refine lv_aload_n hx hb dX10_isPart_0 rfl (lv_at hl 0 rfl) ?_
  refine h_get (ci := 10) (v := .ref (AR 1)) (C := RX10) (T := TX10) (N := 26) hx hb hts kl_X10 hown hK hw hm.1 rfl 6 (by decide) (hts _ kf_X10_13) rfl rfl dX10_isPart_1 ?_
  refine lv_iload_n hx hb dX10_isPart_4 rfl (lv_at hl 1 rfl) ?_
  refine h_iald hx hb hK hw (moA_a (n := 2048) (f := g 1) hm 1 (by decide) rfl rfl) s9 rfl (by omega) (by omega) dX10_isPart_5 ?_
  rw [show (g 1) s9 = WH s9 from (hS.2 _ (by omega)).2.1]
  refine lv_iload_n hx hb dX10_isPart_6 rfl (lv_at hl 2 rfl) ?_
  have J_4 : ∀ (v_3 : Int32) (ls : Array Slot), lv_has ls 3 [(0, .ref mo), (1, .int (nI s9)), (2, .int (nI w9))] → v_3 = (if WH s9 = nI w9 then (if RC s9 ≤ 0 then 0 else 1) else 0) → W p l e R s m args below meth c s.heap [] (0) (0) Q (F0 m 24 ls [.int v_3]) := by
    intro v_3 ls hl ev_3
    have hv : v_3 = bI (mPart WH RC s9 w9) := by
      subst ev_3
      unfold mPart
      simp only [bI_if, bI_t, bI_f]
      all_goals rfl
    rw [hQ]
    exact h_zret hx hb hr hlk hsz hw (by simp) (by simp) dX10_isPart_24 (bI_v hv) ⟨congrArg (fun z => some (Value.int z)) hv, rfl⟩
  refine lv_icmp_ne (tgt := 23) hx hb dX10_isPart_7 (by decide) (fun c_1 => ?_) (fun c_1 => ?_)
  · skip
    refine lv_iconst (v := 0) hx hb dX10_isPart_23 (by decide) ?_
    exact J_4 0 ls (lv_sub hl [0, 1, 2] rfl) (by rw [if_neg c_1])
  · skip
    refine lv_aload_n hx hb dX10_isPart_10 rfl (lv_at hl 0 rfl) ?_
    refine h_get (ci := 10) (v := .ref (AR 6)) (C := RX10) (T := TX10) (N := 26) hx hb hts kl_X10 hown hK hw hm.1 rfl 11 (by decide) (hts _ kf_X10_28) rfl rfl dX10_isPart_11 ?_
    refine lv_iload_n hx hb dX10_isPart_14 rfl (lv_at hl 1 rfl) ?_
    refine h_iald hx hb hK hw (moA_a (n := 2048) (f := g 6) hm 6 (by decide) rfl rfl) s9 rfl (by omega) (by omega) dX10_isPart_15 ?_
    rw [show (g 6) s9 = nI (RC s9) from (hS.2 _ (by omega)).2.2.2.2.2.2.1]
    refine lv_if_le (tgt := 23) hx hb dX10_isPart_16 (by decide) (fun c_2 => ?_) (fun c_2 => ?_)
    · skip
      have c_2 : RC s9 ≤ 0 := (nI_lex (by rfl) (by decide) (by omega) (by omega)).mp c_2
      refine lv_iconst (v := 0) hx hb dX10_isPart_23 (by decide) ?_
      exact J_4 0 ls (lv_sub hl [0, 1, 2] rfl) (by rw [if_pos c_1, if_pos c_2])
    · skip
      have c_2 : ¬ (RC s9 ≤ 0) := (not_congr (nI_lex (by rfl) (by decide) (by omega) (by omega))).mp c_2
      refine lv_iconst (v := 1) hx hb dX10_isPart_19 (by decide) ?_
      refine lv_goto (tgt := 24) hx hb dX10_isPart_20 (by decide) ?_
      exact J_4 1 ls (lv_sub hl [0, 1, 2] rfl) (by rw [if_pos c_1, if_neg c_2])

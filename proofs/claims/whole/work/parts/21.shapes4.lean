/-! ShapeJudge$Shapes: what the judging reads -/
theorem rwGet_n {f : Nat → Int32} {n j : Nat} (h : j < n) (hn : n < 2 ^ 31) : rwGet f n (nI j) = f j := by
  have h0 : ¬ nI j < 0 := by rw [← nI_0]; exact fun h9 => absurd ((nI_ltI (by omega) (by omega)).mp h9) (by omega)
  unfold rwGet
  rw [if_neg h0, if_neg (fun h9 => absurd ((nI_leI hn (by omega)).mp h9) (by omega))]
  rw [nI_clamp (by omega)]
def smP (X Y : Nat → Int32) (a b : Nat) : Bool := if X a = X b then (if Y a = Y b then true else false) else false
theorem shSame_n {f : Nat → Nat → Int32} {np a b : Nat} (ha : a < np) (hb : b < np) (hn : np < 2 ^ 31) : shSame f np (nI a) (nI b) = smP (f 4) (f 5) a b := by
  unfold shSame smP; rw [rwGet_n ha hn, rwGet_n hb hn, rwGet_n ha hn, rwGet_n hb hn]
theorem smP_iff {X Y : Nat → Int32} {a b : Nat} : smP X Y a b = true ↔ X a = X b ∧ Y a = Y b := by unfold smP; by_cases h1 : X a = X b <;> by_cases h2 : Y a = Y b <;> simp [h1, h2]
theorem smP_c {X Y : Nat → Int32} {a b : Nat} : smP X Y a b = smP X Y b a := by
  rw [Bool.eq_iff_iff, smP_iff, smP_iff]; exact ⟨fun h => ⟨h.1.symm, h.2.symm⟩, fun h => ⟨h.1.symm, h.2.symm⟩⟩
/-- how many different points there are from po up to pe: none, one, two, or more -/
def dfR (X Y : Nat → Int32) (po pe : Nat) (v : Int32) : Prop :=
  v = 0 ∧ pe ≤ po ∨ v = 1 ∧ po < pe ∧ (∀ j, po < j → j < pe → smP X Y j po = true) ∨
  v = 2 ∧ po < pe ∧ (∃ k, po < k ∧ k < pe ∧ smP X Y k po = false ∧ ∀ j, po < j → j < pe → smP X Y j po = true ∨ smP X Y j k = true) ∨
  v = 3 ∧ ∃ k j, po < k ∧ k < j ∧ j < pe ∧ smP X Y k po = false ∧ smP X Y j po = false ∧ smP X Y j k = false
def dfI (X Y : Nat → Int32) (po k : Nat) (sc : Int32) : Prop :=
  sc = -1 ∧ (∀ j, po < j → j < k → smP X Y j po = true) ∨ ∃ q, sc = nI q ∧ (po < q ∧ q < k) ∧ smP X Y q po = false ∧ ∀ j, po < j → j < k → smP X Y j po = true ∨ smP X Y j q = true
theorem dfI_0 {X Y : Nat → Int32} {po : Nat} : dfI X Y po (po + 1) (-1) := Or.inl ⟨rfl, fun j h1 h2 => by omega⟩
theorem lt_c {P : Nat → Prop} {po k : Nat} (h : ∀ j, po < j → j < k → P j) (hk : P k) : ∀ j, po < j → j < k + 1 → P j := fun j h1 h2 => by
  by_cases e : j = k
  · rw [e]; exact hk
  · exact h j h1 (by omega)
theorem dfI_a {X Y : Nat → Int32} {po k : Nat} {sc : Int32} (h : dfI X Y po k sc) (hs : smP X Y k po = true) : dfI X Y po (k + 1) sc := by
  rcases h with ⟨h1, h2⟩ | ⟨q, h1, h2, h3, h4⟩
  · exact Or.inl ⟨h1, lt_c h2 hs⟩
  · exact Or.inr ⟨q, h1, by omega, h3, lt_c h4 (Or.inl hs)⟩
theorem dfI_b {X Y : Nat → Int32} {po k : Nat} {sc : Int32} (h : dfI X Y po k sc) (hc : sc = -1) (hs : smP X Y k po = false) (hk : po < k ∧ k < 100000) : dfI X Y po (k + 1) (nI k) := by
  have h' : ∀ j, po < j → j < k → smP X Y j po = true := by
    rcases h with ⟨h1, h2⟩ | ⟨q, h1, h2, h3, h4⟩
    · exact h2
    · exfalso
      rw [h1] at hc
      have h9 : ¬ nI q < 0 := by rw [← nI_0]; exact fun h9 => absurd ((nI_ltI (by omega) (by omega)).mp h9) (by omega)
      rw [hc] at h9; exact h9 (by decide)
  refine Or.inr ⟨k, rfl, by omega, hs, fun j h1 h2 => ?_⟩
  by_cases e : j = k
  · rw [e]; exact Or.inr (smP_iff.mpr ⟨rfl, rfl⟩)
  · exact Or.inl (h' j h1 (by omega))
theorem dfI_c {X Y : Nat → Int32} {po k q : Nat} (h2 : po < q ∧ q < k) (h3 : smP X Y q po = false) (h4 : ∀ j, po < j → j < k → smP X Y j po = true ∨ smP X Y j q = true) (hs : smP X Y k q = true) : dfI X Y po (k + 1) (nI q) :=
  Or.inr ⟨q, rfl, by omega, h3, lt_c h4 (Or.inr hs)⟩
theorem dfR_3 {X Y : Nat → Int32} {po pe k q : Nat} (h2 : po < q ∧ q < k) (hk : k < pe) (h3 : smP X Y q po = false) (h5 : smP X Y k po = false) (h6 : smP X Y k q = false) : dfR X Y po pe 3 :=
  Or.inr (Or.inr (Or.inr ⟨rfl, q, k, h2.1, h2.2, hk, h3, h5, h6⟩))
theorem dfI_m1 {q : Nat} (h : q < 2 ^ 31) : ¬ nI q = -1 := fun hc => by
  have h9 : ¬ nI q < 0 := by rw [← nI_0]; exact fun h9 => absurd ((nI_ltI h (by omega)).mp h9) (by omega)
  rw [hc] at h9; exact h9 (by decide)
theorem dfR_1 {X Y : Nat → Int32} {po pe k : Nat} {sc : Int32} (h : dfI X Y po k sc) (hc : sc = -1) (hk : pe ≤ k ∧ k < 100000) (hp : po < pe) : dfR X Y po pe 1 := by
  rcases h with ⟨h1, h2⟩ | ⟨q, h1, h2, h3, h4⟩
  · exact Or.inr (Or.inl ⟨rfl, hp, fun j h1 h3 => h2 j h1 (by omega)⟩)
  · rw [h1] at hc; exact absurd hc (dfI_m1 (by omega))
theorem dfR_2 {X Y : Nat → Int32} {po pe k : Nat} {sc : Int32} (h : dfI X Y po k sc) (hc : ¬ sc = -1) (hk : k = pe) (hp : po < pe) : dfR X Y po pe 2 := by
  rcases h with ⟨h1, h2⟩ | ⟨q, h1, h2, h3, h4⟩
  · exact absurd h1 hc
  · subst hk; exact Or.inr (Or.inr (Or.inl ⟨rfl, hp, q, h2.1, h2.2, h3, h4⟩))
/-- how many polygons are looked at together with a shape -/
def shCnt (f : Nat → Nat → Int32) (ns si cn : Nat) : Prop :=
  rwGet (f 0) ns (nI si) = 3 ∧ (rwGet (f 0) ns (rwGet (f 1) ns (nI si)) = 6 ∧ cn = 0 ∨ ¬ rwGet (f 0) ns (rwGet (f 1) ns (nI si)) = 6 ∧ cn = 1) ∨
  ¬ rwGet (f 0) ns (nI si) = 3 ∧ ¬ rwGet (f 0) ns (nI si) = 6 ∧ cn = 0 ∨
  rwGet (f 0) ns (nI si) = 6 ∧ si + 1 + cn ≤ ns ∧ (∀ j, si < j → j < si + 1 + cn → rwGet (f 1) ns (nI j) = nI si) ∧ (ns ≤ si + 1 + cn ∨ ¬ rwGet (f 1) ns (nI (si + 1 + cn)) = nI si)
set_option maxHeartbeats 4000000 in
set_option maxRecDepth 100000 in
theorem c_X8_differentPoints (l : Launch) (D : va_G) (dT : Nat → ClassId) (ah : hA) (sz : Nat) (sh : Nat) (RO RA cap : Nat → Nat) (ns nc np no rc : Nat) (f : Nat → Nat → Int32) (hs : shA dT ah sh RO RA cap (v7 ns ns ns nc np np no) f rc) (ch po pe : Nat) (hch : ch ≤ 100000) (hpo : rwGet (f 3) nc (nI ch) = nI po) (hpe : shBehind f nc np ch = nI pe) (hpp : po ≤ pe) (hpn : pe ≤ np) : hMet l yX8_differentPoints cX8_differentPoints 6 (some .int) ({ frames := 2, cells := 0, slots := 0, locals := 43 }) D dT [.ref sh, .int (nI ch)] ah sz (fun r ah2 => ∃ dv : Int32, r = some (.int dv) ∧ dfR (f 4) (f 5) po pe dv ∧ ah = ah2) 0 0 := by
  refine h_met (by decide) (Nat.le_of_ble_eq_true rfl) ?_
  intro p e s m below meth c ls R Q args hav hR hQ hB hl hsz hw
  obtain ⟨hx, hb, hml, hr, hts, hown, hlk, hin, hK⟩ := hB
  have hown : s.vm.findClass RX8 = some m.cls := hown
  have hl : lv_has ls 6 [(0, .ref sh), (1, .int (nI ch))] := hl
  have hb0 : ns ≤ cap 0 ∧ 32 ≤ cap 0 ∧ cap 0 ≤ 40000 := (hs.2.1 0 (by omega)).2.2
  have hb1 : ns ≤ cap 1 ∧ 32 ≤ cap 1 ∧ cap 1 ≤ 40000 := (hs.2.1 1 (by omega)).2.2
  have hb2 : ns ≤ cap 2 ∧ 32 ≤ cap 2 ∧ cap 2 ≤ 40000 := (hs.2.1 2 (by omega)).2.2
  have hb3 : nc ≤ cap 3 ∧ 32 ≤ cap 3 ∧ cap 3 ≤ 40000 := (hs.2.1 3 (by omega)).2.2
  have hb4 : np ≤ cap 4 ∧ 32 ≤ cap 4 ∧ cap 4 ≤ 40000 := (hs.2.1 4 (by omega)).2.2
  have hb5 : np ≤ cap 5 ∧ 32 ≤ cap 5 ∧ cap 5 ≤ 40000 := (hs.2.1 5 (by omega)).2.2
  have hb6 : no ≤ cap 6 ∧ 32 ≤ cap 6 ∧ cap 6 ≤ 40000 := (hs.2.1 6 (by omega)).2.2
  refine lv_aload_n hx hb dX8_differentPoints_0 rfl (lv_at hl 0 rfl) ?_
  refine h_get (ci := 8) (v := .ref (RO 3)) (C := RX8) (T := TX8) (N := 8) hx hb hts kl_X8 hown hK hw hs.1 rfl 3 (by decide) (hts _ kf_X8_24) rfl rfl dX8_differentPoints_1 ?_
  refine lv_iload_n hx hb dX8_differentPoints_4 rfl (lv_at hl 1 rfl) ?_
  refine h_callV (n := 1) (ci := 6) (b := (RO 3)) (As := [.int (nI ch)]) (rest := []) ⟨hx, hb, hml, hown, hts⟩ hK hw (c_X6_get l D dT ah s.heap.size (RO 3) (RA 3) (cap 3) nc (f 3) (by omega) (by omega) (hs.2.1 3 (by omega)).1 (hs.2.1 3 (by omega)).2.1 (nI ch)) ko_X6_get km_X8_47 ki_X6_get ks_X6_get kn_X6 (by decide +kernel) rfl (hs.2.1 3 (by omega)).1 rfl hl.1 rfl (by simp [Value.category]) dX8_differentPoints_5 (by rw [hR]; exact ⟨rfl, rfl, Nat.le_of_ble_eq_true rfl, Nat.le_of_ble_eq_true rfl, by simp, by simp⟩) (fun r_1 ah_2 H_3 L_4 st_5 hp hw hst => ?_)
  obtain ⟨hr_6, rfl⟩ := hp
  rw [show rwGet (f 3) nc (nI ch) = nI po from hpo] at hr_6
  subst hr_6
  have hst : st_5 = [.int (nI po)] := hst
  subst hst
  refine lv_istore_n (lv' := [(2, .int (nI po)), (0, .ref sh), (1, .int (nI ch))]) hx hb dX8_differentPoints_8 rfl hl (by decide) rfl (fun ls hl => ?_)
  refine lv_aload_n hx hb dX8_differentPoints_9 rfl (lv_at hl 1 rfl) ?_
  refine lv_iload_n hx hb dX8_differentPoints_10 rfl (lv_at hl 2 rfl) ?_
  refine h_callV (n := 1) (ci := 8) (b := sh) (As := [.int (nI ch)]) (rest := []) ⟨hx, hb, hml, hown, hts⟩ hK hw (c_X8_behindChain l D dT ah H_3.size sh RO RA cap ns nc np no rc f hs ch (by omega)) ko_X8_behindChain km_X8_91 ki_X8_behindChain ks_X8_behindChain kn_X8 (by decide +kernel) rfl hs.1 rfl hl.1 rfl (by simp [Value.category]) dX8_differentPoints_11 (by rw [hR]; exact ⟨rfl, rfl, Nat.le_of_ble_eq_true rfl, Nat.le_of_ble_eq_true rfl, by simp, by simp⟩) (fun r_7 ah_8 H_9 L_10 st_11 hp hw hst => ?_)
  obtain ⟨hr_12, rfl⟩ := hp
  rw [show shBehind f nc np ch = nI pe from hpe] at hr_12
  subst hr_12
  have hst : st_11 = [.int (nI pe)] := hst
  subst hst
  refine lv_istore_n (lv' := [(3, .int (nI pe)), (2, .int (nI po)), (0, .ref sh), (1, .int (nI ch))]) hx hb dX8_differentPoints_14 rfl hl (by decide) rfl (fun ls hl => ?_)
  refine lv_iconst (v := (-1)) hx hb dX8_differentPoints_15 (by decide) ?_
  refine lv_istore (lv' := [(4, .int (-1)), (3, .int (nI pe)), (2, .int (nI po)), (0, .ref sh), (1, .int (nI ch))]) hx hb dX8_differentPoints_16 hl (by decide) rfl (fun ls hl => ?_)
  refine lv_iload_n hx hb dX8_differentPoints_18 rfl (lv_at hl 2 rfl) ?_
  refine lv_iconst (v := 1) hx hb dX8_differentPoints_19 (by decide) ?_
  refine lv_iadd hx hb dX8_differentPoints_20 ?_
  refine lv_topi (fun t_13 et_13 => ?_)
  obtain rfl : t_13 = nI (po + 1) := et_13.trans (nI_c _ 1)
  refine lv_istore (lv' := [(5, .int (nI (po + 1))), (4, .int (-1)), (3, .int (nI pe)), (2, .int (nI po)), (0, .ref sh), (1, .int (nI ch))]) hx hb dX8_differentPoints_21 hl (by decide) rfl (fun ls hl => ?_)
  have LP23 : ∀ (k23 : Nat) (k : Nat) (sc : Int32) (ls : Array Slot) (H23 : Heap) (L23 : List Loc), (pe - k < k23) → (po < k ∧ (k ≤ pe ∨ k = po + 1)) → (dfI (f 4) (f 5) po k sc) → lv_has ls 6 [(5, .int (nI k)), (4, .int sc), (3, .int (nI pe)), (2, .int (nI po)), (0, .ref sh), (1, .int (nI ch))] → hW D ah s.heap ah H23 L23 → W p l e R s m args below meth c H23 L23 (0 + 0 + 0) (0 + 0 + 0) Q (F0 m 23 ls []) := by
    intro k23
    induction k23 with
    | zero => intro k sc ls H23 L23 hk; exact absurd hk (Nat.not_lt_zero _)
    | succ k23 ih23 =>
      intro k sc ls H23 L23 hk23 hk1 hsc hl hw
      refine lv_iload hx hb dX8_differentPoints_23 (lv_at hl 0 rfl) ?_
      refine lv_iload_n hx hb dX8_differentPoints_25 rfl (lv_at hl 2 rfl) ?_
      refine lv_icmp_ge (tgt := 74) hx hb dX8_differentPoints_26 (by decide) (fun c_14 => ?_) (fun c_14 => ?_)
      · skip
        have c_14 : pe ≤ k := (nI_lex (by rfl) (by rfl) (by omega) (by omega)).mp c_14
        refine lv_iload_n hx hb dX8_differentPoints_74 rfl (lv_at hl 3 rfl) ?_
        refine lv_iload_n hx hb dX8_differentPoints_75 rfl (lv_at hl 2 rfl) ?_
        refine lv_icmp_lt (tgt := 81) hx hb dX8_differentPoints_76 (by decide) (fun c_15 => ?_) (fun c_15 => ?_)
        · skip
          have c_15 : po < pe := (nI_ltx (by rfl) (by rfl) (by omega) (by omega)).mp c_15
          refine lv_iload hx hb dX8_differentPoints_81 (lv_at hl 1 rfl) ?_
          refine lv_iconst (v := (-1)) hx hb dX8_differentPoints_83 (by decide) ?_
          refine lv_icmp_ne (tgt := 91) hx hb dX8_differentPoints_84 (by decide) (fun c_16 => ?_) (fun c_16 => ?_)
          · skip
            refine lv_iconst (v := 2) hx hb dX8_differentPoints_91 (by decide) ?_
            rw [hQ]
            exact h_iret hx hb hr hlk hsz hw (by simp) (by simp) dX8_differentPoints_92 ⟨_, rfl, dfR_2 hsc c_16 (by omega) (by omega), rfl⟩
          · skip
            refine lv_iconst (v := 1) hx hb dX8_differentPoints_87 (by decide) ?_
            refine lv_goto (tgt := 92) hx hb dX8_differentPoints_88 (by decide) ?_
            rw [hQ]
            exact h_iret hx hb hr hlk hsz hw (by simp) (by simp) dX8_differentPoints_92 ⟨_, rfl, dfR_1 hsc c_16 (by omega) (by omega), rfl⟩
        · skip
          have c_15 : ¬ (po < pe) := (not_congr (nI_ltx (by rfl) (by rfl) (by omega) (by omega))).mp c_15
          refine lv_iconst (v := 0) hx hb dX8_differentPoints_79 (by decide) ?_
          rw [hQ]
          exact h_iret hx hb hr hlk hsz hw (by simp) (by simp) dX8_differentPoints_80 ⟨_, rfl, Or.inl ⟨rfl, by omega⟩, rfl⟩
      · skip
        have c_14 : ¬ (pe ≤ k) := (not_congr (nI_lex (by rfl) (by rfl) (by omega) (by omega))).mp c_14
        refine lv_aload_n hx hb dX8_differentPoints_29 rfl (lv_at hl 4 rfl) ?_
        refine lv_iload hx hb dX8_differentPoints_30 (lv_at hl 0 rfl) ?_
        refine lv_iload_n hx hb dX8_differentPoints_32 rfl (lv_at hl 3 rfl) ?_
        refine h_callV (n := 2) (ci := 8) (b := sh) (As := [.int (nI k), .int (nI po)]) (rest := []) ⟨hx, hb, hml, hown, hts⟩ hK hw (c_X8_isSame l D dT ah H23.size sh RO RA cap ns nc np no rc f hs (nI k) (nI po)) ko_X8_isSame km_X8_97 ki_X8_isSame ks_X8_isSame kn_X8 (by decide +kernel) rfl hs.1 rfl hl.1 rfl (by simp [Value.category]) dX8_differentPoints_33 (by rw [hR]; exact ⟨rfl, rfl, Nat.le_of_ble_eq_true rfl, Nat.le_of_ble_eq_true rfl, by simp, by simp⟩) (fun r_17 ah_18 H_19 L_20 st_21 hp hw hst => ?_)
        obtain ⟨hr_22, rfl⟩ := hp
        rw [show shSame f np (nI k) (nI po) = smP (f 4) (f 5) k po from shSame_n (by omega) (by omega) (by omega)] at hr_22
        subst hr_22
        have hst : st_21 = [.int (bI (smP (f 4) (f 5) k po))] := hst
        subst hst
        refine lv_if_eq (tgt := 42) hx hb dX8_differentPoints_36 (by decide) (fun c_23 => ?_) (fun c_23 => ?_)
        · skip
          have c_23 : smP (f 4) (f 5) k po = false := bI_0.mp c_23
          refine lv_iload hx hb dX8_differentPoints_42 (lv_at hl 1 rfl) ?_
          refine lv_iconst (v := (-1)) hx hb dX8_differentPoints_44 (by decide) ?_
          refine lv_icmp_ne (tgt := 55) hx hb dX8_differentPoints_45 (by decide) (fun c_24 => ?_) (fun c_24 => ?_)
          · skip
            obtain ⟨k9, rfl, hk2, hk3, hk4⟩ := hsc.resolve_left (fun h9 => c_24 h9.1)
            refine lv_aload_n hx hb dX8_differentPoints_55 rfl (lv_at hl 4 rfl) ?_
            refine lv_iload hx hb dX8_differentPoints_56 (lv_at hl 0 rfl) ?_
            refine lv_iload hx hb dX8_differentPoints_58 (lv_at hl 1 rfl) ?_
            refine h_callV (n := 2) (ci := 8) (b := sh) (As := [.int (nI k), .int (nI k9)]) (rest := []) ⟨hx, hb, hml, hown, hts⟩ hK hw (c_X8_isSame l D dT ah H_19.size sh RO RA cap ns nc np no rc f hs (nI k) (nI k9)) ko_X8_isSame km_X8_97 ki_X8_isSame ks_X8_isSame kn_X8 (by decide +kernel) rfl hs.1 rfl hl.1 rfl (by simp [Value.category]) dX8_differentPoints_60 (by rw [hR]; exact ⟨rfl, rfl, Nat.le_of_ble_eq_true rfl, Nat.le_of_ble_eq_true rfl, by simp, by simp⟩) (fun r_25 ah_26 H_27 L_28 st_29 hp hw hst => ?_)
            obtain ⟨hr_30, rfl⟩ := hp
            rw [show shSame f np (nI k) (nI k9) = smP (f 4) (f 5) k k9 from shSame_n (by omega) (by omega) (by omega)] at hr_30
            subst hr_30
            have hst : st_29 = [.int (bI (smP (f 4) (f 5) k k9))] := hst
            subst hst
            refine lv_if_ne (tgt := 68) hx hb dX8_differentPoints_63 (by decide) (fun c_31 => ?_) (fun c_31 => ?_)
            · skip
              have c_31 : ¬ (smP (f 4) (f 5) k k9 = false) := (not_congr bI_0).mp c_31
              refine lv_iinc (v := nI (k + 1)) (lv' := [(5, .int (nI (k + 1))), (4, .int (nI k9)), (3, .int (nI pe)), (2, .int (nI po)), (0, .ref sh), (1, .int (nI ch))]) hx hb dX8_differentPoints_68 hl (k := 0) rfl (nI_c _ 1) (by decide) rfl (fun ls hl => ?_)
              refine lv_goto (tgt := 23) hx hb dX8_differentPoints_71 (by decide) ?_
              refine W.widen (k := 0 + 0 + 0) (n := 0 + 0 + 0) (by omega) (by omega) ?_
              exact ih23 (k + 1) (nI k9) ls _ _ (by omega) (by omega) (dfI_c (by omega) hk3 hk4 (nF c_31)) (lv_sub hl [0, 1, 2, 3, 4, 5] rfl) hw
            · skip
              have c_31 : smP (f 4) (f 5) k k9 = false := bI_0.mp c_31
              refine lv_iconst (v := 3) hx hb dX8_differentPoints_66 (by decide) ?_
              rw [hQ]
              exact h_iret hx hb hr hlk hsz hw (by simp) (by simp) dX8_differentPoints_67 ⟨_, rfl, dfR_3 hk2 (by omega) hk3 (c_23) (c_31), rfl⟩
          · skip
            refine lv_iload hx hb dX8_differentPoints_48 (lv_at hl 0 rfl) ?_
            refine lv_istore (lv' := [(4, .int (nI k)), (5, .int (nI k)), (3, .int (nI pe)), (2, .int (nI po)), (0, .ref sh), (1, .int (nI ch))]) hx hb dX8_differentPoints_50 hl (by decide) rfl (fun ls hl => ?_)
            refine lv_goto (tgt := 68) hx hb dX8_differentPoints_52 (by decide) ?_
            refine lv_iinc (v := nI (k + 1)) (lv' := [(5, .int (nI (k + 1))), (4, .int (nI k)), (3, .int (nI pe)), (2, .int (nI po)), (0, .ref sh), (1, .int (nI ch))]) hx hb dX8_differentPoints_68 hl (k := 1) rfl (nI_c _ 1) (by decide) rfl (fun ls hl => ?_)
            refine lv_goto (tgt := 23) hx hb dX8_differentPoints_71 (by decide) ?_
            refine W.widen (k := 0 + 0 + 0) (n := 0 + 0 + 0) (by omega) (by omega) ?_
            exact ih23 (k + 1) (nI k) ls _ _ (by omega) (by omega) (dfI_b hsc c_24 c_23 (by omega)) (lv_sub hl [0, 1, 2, 3, 4, 5] rfl) hw
        · skip
          have c_23 : ¬ (smP (f 4) (f 5) k po = false) := (not_congr bI_0).mp c_23
          refine lv_goto (tgt := 68) hx hb dX8_differentPoints_39 (by decide) ?_
          refine lv_iinc (v := nI (k + 1)) (lv' := [(5, .int (nI (k + 1))), (4, .int sc), (3, .int (nI pe)), (2, .int (nI po)), (0, .ref sh), (1, .int (nI ch))]) hx hb dX8_differentPoints_68 hl (k := 0) rfl (nI_c _ 1) (by decide) rfl (fun ls hl => ?_)
          refine lv_goto (tgt := 23) hx hb dX8_differentPoints_71 (by decide) ?_
          refine W.widen (k := 0 + 0 + 0) (n := 0 + 0 + 0) (by omega) (by omega) ?_
          exact ih23 (k + 1) sc ls _ _ (by omega) (by omega) (dfI_a hsc (nF c_23)) (lv_sub hl [0, 1, 2, 3, 4, 5] rfl) hw
  exact LP23 ((pe - (po + 1)) + 1) (po + 1) (-1) ls _ _ (Nat.lt_succ_self _) (by omega) dfI_0 (lv_sub hl [0, 1, 2, 3, 4, 5] rfl) hw

set_option maxHeartbeats 4000000 in
set_option maxRecDepth 100000 in
theorem c_X8_differentInLine (l : Launch) (D : va_G) (dT : Nat → ClassId) (ah : hA) (sz : Nat) (sh : Nat) (RO RA cap : Nat → Nat) (ns nc np no rc : Nat) (f : Nat → Nat → Int32) (hs : shA dT ah sh RO RA cap (v7 ns ns ns nc np np no) f rc) (si ch : Nat) (hfc : rwGet (f 2) ns (nI si) = nI ch) (po pe : Nat) (hch : ch ≤ 100000) (hpo : rwGet (f 3) nc (nI ch) = nI po) (hpe : shBehind f nc np ch = nI pe) (hpp : po ≤ pe) (hpn : pe ≤ np) : hMet l yX8_differentInLine cX8_differentInLine 2 (some .int) ({ frames := 3, cells := 0, slots := 0, locals := 68 }) D dT [.ref sh, .int (nI si)] ah sz (fun r ah2 => ∃ dv : Int32, r = some (.int dv) ∧ dfR (f 4) (f 5) po pe dv ∧ ah = ah2) 0 0 := by
  refine h_met (by decide) (Nat.le_of_ble_eq_true rfl) ?_
  intro p e s m below meth c ls R Q args hav hR hQ hB hl hsz hw
  obtain ⟨hx, hb, hml, hr, hts, hown, hlk, hin, hK⟩ := hB
  have hown : s.vm.findClass RX8 = some m.cls := hown
  have hl : lv_has ls 2 [(0, .ref sh), (1, .int (nI si))] := hl
  have hb0 : ns ≤ cap 0 ∧ 32 ≤ cap 0 ∧ cap 0 ≤ 40000 := (hs.2.1 0 (by omega)).2.2
  have hb1 : ns ≤ cap 1 ∧ 32 ≤ cap 1 ∧ cap 1 ≤ 40000 := (hs.2.1 1 (by omega)).2.2
  have hb2 : ns ≤ cap 2 ∧ 32 ≤ cap 2 ∧ cap 2 ≤ 40000 := (hs.2.1 2 (by omega)).2.2
  have hb3 : nc ≤ cap 3 ∧ 32 ≤ cap 3 ∧ cap 3 ≤ 40000 := (hs.2.1 3 (by omega)).2.2
  have hb4 : np ≤ cap 4 ∧ 32 ≤ cap 4 ∧ cap 4 ≤ 40000 := (hs.2.1 4 (by omega)).2.2
  have hb5 : np ≤ cap 5 ∧ 32 ≤ cap 5 ∧ cap 5 ≤ 40000 := (hs.2.1 5 (by omega)).2.2
  have hb6 : no ≤ cap 6 ∧ 32 ≤ cap 6 ∧ cap 6 ≤ 40000 := (hs.2.1 6 (by omega)).2.2
  refine lv_aload_n hx hb dX8_differentInLine_0 rfl (lv_at hl 0 rfl) ?_
  refine lv_aload_n hx hb dX8_differentInLine_1 rfl (lv_at hl 0 rfl) ?_
  refine h_get (ci := 8) (v := .ref (RO 2)) (C := RX8) (T := TX8) (N := 8) hx hb hts kl_X8 hown hK hw hs.1 rfl 2 (by decide) (hts _ kf_X8_21) rfl rfl dX8_differentInLine_2 ?_
  refine lv_iload_n hx hb dX8_differentInLine_5 rfl (lv_at hl 1 rfl) ?_
  refine h_callV (n := 1) (ci := 6) (b := (RO 2)) (As := [.int (nI si)]) (rest := [.ref sh]) ⟨hx, hb, hml, hown, hts⟩ hK hw (c_X6_get l D dT ah s.heap.size (RO 2) (RA 2) (cap 2) ns (f 2) (by omega) (by omega) (hs.2.1 2 (by omega)).1 (hs.2.1 2 (by omega)).2.1 (nI si)) ko_X6_get km_X8_47 ki_X6_get ks_X6_get kn_X6 (by decide +kernel) rfl (hs.2.1 2 (by omega)).1 rfl hl.1 rfl (by simp [Value.category]) dX8_differentInLine_6 (by rw [hR]; exact ⟨rfl, rfl, Nat.le_of_ble_eq_true rfl, Nat.le_of_ble_eq_true rfl, by simp, by simp⟩) (fun r_1 ah_2 H_3 L_4 st_5 hp hw hst => ?_)
  obtain ⟨hr_6, rfl⟩ := hp
  rw [show rwGet (f 2) ns (nI si) = nI ch from hfc] at hr_6
  subst hr_6
  have hst : st_5 = [.int (nI ch), .ref sh] := hst
  subst hst
  refine h_callV (n := 1) (ci := 8) (b := sh) (As := [.int (nI ch)]) (rest := []) ⟨hx, hb, hml, hown, hts⟩ hK hw (c_X8_differentPoints l D dT ah H_3.size sh RO RA cap ns nc np no rc f hs ch po pe (by omega) hpo hpe (by omega) (by omega)) ko_X8_differentPoints km_X8_64 ki_X8_differentPoints ks_X8_differentPoints kn_X8 (by decide +kernel) rfl hs.1 rfl hl.1 rfl (by simp [Value.category]) dX8_differentInLine_9 (by rw [hR]; exact ⟨rfl, rfl, Nat.le_of_ble_eq_true rfl, Nat.le_of_ble_eq_true rfl, by simp, by simp⟩) (fun r_7 ah_8 H_9 L_10 st_11 hp hw hst => ?_)
  obtain ⟨dv_12, rfl, hdf, rfl⟩ := hp
  have hst : st_11 = [.int dv_12] := hst
  subst hst
  rw [hQ]
  exact h_iret hx hb hr hlk hsz hw (by simp) (by simp) dX8_differentInLine_12 ⟨_, rfl, hdf, rfl⟩

set_option maxHeartbeats 4000000 in
set_option maxRecDepth 100000 in
theorem c_X8_countPolygons (l : Launch) (D : va_G) (dT : Nat → ClassId) (ah : hA) (sz : Nat) (sh : Nat) (RO RA cap : Nat → Nat) (ns nc np no rc : Nat) (f : Nat → Nat → Int32) (hs : shA dT ah sh RO RA cap (v7 ns ns ns nc np np no) f rc) (si : Nat) (hsi : si < ns) : hMet l yX8_countPolygons cX8_countPolygons 3 (some .int) ({ frames := 1, cells := 0, slots := 0, locals := 21 }) D dT [.ref sh, .int (nI si)] ah sz (fun r ah2 => ∃ cn : Nat, r = some (.int (nI cn)) ∧ shCnt f ns si cn ∧ ah = ah2) 0 0 := by
  refine h_met (by decide) (Nat.le_of_ble_eq_true rfl) ?_
  intro p e s m below meth c ls R Q args hav hR hQ hB hl hsz hw
  obtain ⟨hx, hb, hml, hr, hts, hown, hlk, hin, hK⟩ := hB
  have hown : s.vm.findClass RX8 = some m.cls := hown
  have hl : lv_has ls 3 [(0, .ref sh), (1, .int (nI si))] := hl
  have hb0 : ns ≤ cap 0 ∧ 32 ≤ cap 0 ∧ cap 0 ≤ 40000 := (hs.2.1 0 (by omega)).2.2
  have hb1 : ns ≤ cap 1 ∧ 32 ≤ cap 1 ∧ cap 1 ≤ 40000 := (hs.2.1 1 (by omega)).2.2
  have hb2 : ns ≤ cap 2 ∧ 32 ≤ cap 2 ∧ cap 2 ≤ 40000 := (hs.2.1 2 (by omega)).2.2
  have hb3 : nc ≤ cap 3 ∧ 32 ≤ cap 3 ∧ cap 3 ≤ 40000 := (hs.2.1 3 (by omega)).2.2
  have hb4 : np ≤ cap 4 ∧ 32 ≤ cap 4 ∧ cap 4 ≤ 40000 := (hs.2.1 4 (by omega)).2.2
  have hb5 : np ≤ cap 5 ∧ 32 ≤ cap 5 ∧ cap 5 ≤ 40000 := (hs.2.1 5 (by omega)).2.2
  have hb6 : no ≤ cap 6 ∧ 32 ≤ cap 6 ∧ cap 6 ≤ 40000 := (hs.2.1 6 (by omega)).2.2
  refine lv_aload_n hx hb dX8_countPolygons_0 rfl (lv_at hl 0 rfl) ?_
  refine h_get (ci := 8) (v := .ref (RO 0)) (C := RX8) (T := TX8) (N := 8) hx hb hts kl_X8 hown hK hw hs.1 rfl 0 (by decide) (hts _ kf_X8_12) rfl rfl dX8_countPolygons_1 ?_
  refine lv_iload_n hx hb dX8_countPolygons_4 rfl (lv_at hl 1 rfl) ?_
  refine h_callV (n := 1) (ci := 6) (b := (RO 0)) (As := [.int (nI si)]) (rest := []) ⟨hx, hb, hml, hown, hts⟩ hK hw (c_X6_get l D dT ah s.heap.size (RO 0) (RA 0) (cap 0) ns (f 0) (by omega) (by omega) (hs.2.1 0 (by omega)).1 (hs.2.1 0 (by omega)).2.1 (nI si)) ko_X6_get km_X8_47 ki_X6_get ks_X6_get kn_X6 (by decide +kernel) rfl (hs.2.1 0 (by omega)).1 rfl hl.1 rfl (by simp [Value.category]) dX8_countPolygons_5 (by rw [hR]; exact ⟨rfl, rfl, Nat.le_of_ble_eq_true rfl, Nat.le_of_ble_eq_true rfl, by simp, by simp⟩) (fun r_1 ah_2 H_3 L_4 st_5 hp hw hst => ?_)
  obtain ⟨rfl, rfl⟩ := hp
  have hst : st_5 = [.int (rwGet (f 0) ns (nI si))] := hst
  subst hst
  refine lv_iconst (v := 3) hx hb dX8_countPolygons_8 (by decide) ?_
  refine lv_icmp_ne (tgt := 38) hx hb dX8_countPolygons_9 (by decide) (fun c_6 => ?_) (fun c_6 => ?_)
  · skip
    refine lv_aload_n hx hb dX8_countPolygons_38 rfl (lv_at hl 0 rfl) ?_
    refine h_get (ci := 8) (v := .ref (RO 0)) (C := RX8) (T := TX8) (N := 8) hx hb hts kl_X8 hown hK hw hs.1 rfl 0 (by decide) (hts _ kf_X8_12) rfl rfl dX8_countPolygons_39 ?_
    refine lv_iload_n hx hb dX8_countPolygons_42 rfl (lv_at hl 1 rfl) ?_
    refine h_callV (n := 1) (ci := 6) (b := (RO 0)) (As := [.int (nI si)]) (rest := []) ⟨hx, hb, hml, hown, hts⟩ hK hw (c_X6_get l D dT ah H_3.size (RO 0) (RA 0) (cap 0) ns (f 0) (by omega) (by omega) (hs.2.1 0 (by omega)).1 (hs.2.1 0 (by omega)).2.1 (nI si)) ko_X6_get km_X8_47 ki_X6_get ks_X6_get kn_X6 (by decide +kernel) rfl (hs.2.1 0 (by omega)).1 rfl hl.1 rfl (by simp [Value.category]) dX8_countPolygons_43 (by rw [hR]; exact ⟨rfl, rfl, Nat.le_of_ble_eq_true rfl, Nat.le_of_ble_eq_true rfl, by simp, by simp⟩) (fun r_7 ah_8 H_9 L_10 st_11 hp hw hst => ?_)
    obtain ⟨rfl, rfl⟩ := hp
    have hst : st_11 = [.int (rwGet (f 0) ns (nI si))] := hst
    subst hst
    refine lv_bipush (v := 6) hx hb dX8_countPolygons_46 (by decide) ?_
    refine lv_icmp_eq (tgt := 53) hx hb dX8_countPolygons_48 (by decide) (fun c_12 => ?_) (fun c_12 => ?_)
    · skip
      refine lv_iload_n hx hb dX8_countPolygons_53 rfl (lv_at hl 1 rfl) ?_
      refine lv_iconst (v := 1) hx hb dX8_countPolygons_54 (by decide) ?_
      refine lv_iadd hx hb dX8_countPolygons_55 ?_
      refine lv_topi (fun t_13 et_13 => ?_)
      obtain rfl : t_13 = nI (si + 1) := et_13.trans (nI_c _ 1)
      refine lv_istore_n (lv' := [(2, .int (nI (si + 1))), (0, .ref sh), (1, .int (nI si))]) hx hb dX8_countPolygons_56 rfl hl (by decide) rfl (fun ls hl => ?_)
      have LP57 : ∀ (k57 : Nat) (k : Nat) (ls : Array Slot) (H57 : Heap) (L57 : List Loc), (ns - k < k57) → (si < k ∧ k ≤ ns) → (∀ j, si < j → j < k → rwGet (f 1) ns (nI j) = nI si) → lv_has ls 3 [(2, .int (nI k)), (0, .ref sh), (1, .int (nI si))] → hW D ah s.heap ah H57 L57 → W p l e R s m args below meth c H57 L57 (0 + 0 + 0) (0 + 0 + 0) Q (F0 m 57 ls []) := by
        intro k57
        induction k57 with
        | zero => intro k ls H57 L57 hk; exact absurd hk (Nat.not_lt_zero _)
        | succ k57 ih57 =>
          intro k ls H57 L57 hk57 hk1 hk2 hl hw
          refine lv_iload_n hx hb dX8_countPolygons_57 rfl (lv_at hl 0 rfl) ?_
          refine lv_aload_n hx hb dX8_countPolygons_58 rfl (lv_at hl 1 rfl) ?_
          refine h_get (ci := 8) (v := .ref (RO 0)) (C := RX8) (T := TX8) (N := 8) hx hb hts kl_X8 hown hK hw hs.1 rfl 0 (by decide) (hts _ kf_X8_12) rfl rfl dX8_countPolygons_59 ?_
          refine h_callV (n := 0) (ci := 6) (b := (RO 0)) (As := []) (rest := [.int (nI k)]) ⟨hx, hb, hml, hown, hts⟩ hK hw (c_X6_size l D dT ah H57.size (RO 0) (RA 0) (cap 0) ns (f 0) (by omega) (by omega) (hs.2.1 0 (by omega)).1 (hs.2.1 0 (by omega)).2.1) ko_X6_size km_X8_43 ki_X6_size ks_X6_size kn_X6 (by decide +kernel) rfl (hs.2.1 0 (by omega)).1 rfl hl.1 rfl (by simp [Value.category]) dX8_countPolygons_62 (by rw [hR]; exact ⟨rfl, rfl, Nat.le_of_ble_eq_true rfl, Nat.le_of_ble_eq_true rfl, by simp, by simp⟩) (fun r_14 ah_15 H_16 L_17 st_18 hp hw hst => ?_)
          obtain ⟨rfl, rfl⟩ := hp
          have hst : st_18 = [.int (nI ns), .int (nI k)] := hst
          subst hst
          refine lv_icmp_ge (tgt := 86) hx hb dX8_countPolygons_65 (by decide) (fun c_19 => ?_) (fun c_19 => ?_)
          · skip
            have c_19 : ns ≤ k := (nI_lex (by rfl) (by rfl) (by omega) (by omega)).mp c_19
            refine lv_iload_n hx hb dX8_countPolygons_86 rfl (lv_at hl 0 rfl) ?_
            refine lv_iload_n hx hb dX8_countPolygons_87 rfl (lv_at hl 2 rfl) ?_
            refine lv_isub hx hb dX8_countPolygons_88 ?_
            refine lv_topi (fun t_20 et_20 => ?_)
            obtain rfl : t_20 = nI (k - si) := et_20.trans (pk_sub (by omega))
            refine lv_iconst (v := 1) hx hb dX8_countPolygons_89 (by decide) ?_
            refine lv_isub hx hb dX8_countPolygons_90 ?_
            refine lv_topi (fun t_21 et_21 => ?_)
            obtain rfl : t_21 = nI (k - si - 1) := et_21.trans (nI_s _ 1 (by omega))
            rw [hQ]
            exact h_iret hx hb hr hlk hsz hw (by simp) (by simp) dX8_countPolygons_91 ⟨_, rfl, Or.inr (Or.inr ⟨c_12, by omega, (fun j h1 h2 => hk2 j (by omega) (by omega)), (by rw [show si + 1 + (k - si - 1) = k by omega]; exact Or.inl (by omega))⟩), rfl⟩
          · skip
            have c_19 : ¬ (ns ≤ k) := (not_congr (nI_lex (by rfl) (by rfl) (by omega) (by omega))).mp c_19
            refine lv_aload_n hx hb dX8_countPolygons_68 rfl (lv_at hl 1 rfl) ?_
            refine h_get (ci := 8) (v := .ref (RO 1)) (C := RX8) (T := TX8) (N := 8) hx hb hts kl_X8 hown hK hw hs.1 rfl 1 (by decide) (hts _ kf_X8_18) rfl rfl dX8_countPolygons_69 ?_
            refine lv_iload_n hx hb dX8_countPolygons_72 rfl (lv_at hl 0 rfl) ?_
            refine h_callV (n := 1) (ci := 6) (b := (RO 1)) (As := [.int (nI k)]) (rest := []) ⟨hx, hb, hml, hown, hts⟩ hK hw (c_X6_get l D dT ah H_16.size (RO 1) (RA 1) (cap 1) ns (f 1) (by omega) (by omega) (hs.2.1 1 (by omega)).1 (hs.2.1 1 (by omega)).2.1 (nI k)) ko_X6_get km_X8_47 ki_X6_get ks_X6_get kn_X6 (by decide +kernel) rfl (hs.2.1 1 (by omega)).1 rfl hl.1 rfl (by simp [Value.category]) dX8_countPolygons_73 (by rw [hR]; exact ⟨rfl, rfl, Nat.le_of_ble_eq_true rfl, Nat.le_of_ble_eq_true rfl, by simp, by simp⟩) (fun r_22 ah_23 H_24 L_25 st_26 hp hw hst => ?_)
            obtain ⟨rfl, rfl⟩ := hp
            have hst : st_26 = [.int (rwGet (f 1) ns (nI k))] := hst
            subst hst
            refine lv_iload_n hx hb dX8_countPolygons_76 rfl (lv_at hl 2 rfl) ?_
            refine lv_icmp_ne (tgt := 86) hx hb dX8_countPolygons_77 (by decide) (fun c_27 => ?_) (fun c_27 => ?_)
            · skip
              refine lv_iload_n hx hb dX8_countPolygons_86 rfl (lv_at hl 0 rfl) ?_
              refine lv_iload_n hx hb dX8_countPolygons_87 rfl (lv_at hl 2 rfl) ?_
              refine lv_isub hx hb dX8_countPolygons_88 ?_
              refine lv_topi (fun t_28 et_28 => ?_)
              obtain rfl : t_28 = nI (k - si) := et_28.trans (pk_sub (by omega))
              refine lv_iconst (v := 1) hx hb dX8_countPolygons_89 (by decide) ?_
              refine lv_isub hx hb dX8_countPolygons_90 ?_
              refine lv_topi (fun t_29 et_29 => ?_)
              obtain rfl : t_29 = nI (k - si - 1) := et_29.trans (nI_s _ 1 (by omega))
              rw [hQ]
              exact h_iret hx hb hr hlk hsz hw (by simp) (by simp) dX8_countPolygons_91 ⟨_, rfl, Or.inr (Or.inr ⟨c_12, by omega, (fun j h1 h2 => hk2 j (by omega) (by omega)), (by rw [show si + 1 + (k - si - 1) = k by omega]; exact Or.inr c_27)⟩), rfl⟩
            · skip
              refine lv_iinc (v := nI (k + 1)) (lv' := [(2, .int (nI (k + 1))), (0, .ref sh), (1, .int (nI si))]) hx hb dX8_countPolygons_80 hl (k := 0) rfl (nI_c _ 1) (by decide) rfl (fun ls hl => ?_)
              refine lv_goto (tgt := 57) hx hb dX8_countPolygons_83 (by decide) ?_
              refine W.widen (k := 0 + 0 + 0) (n := 0 + 0 + 0) (by omega) (by omega) ?_
              exact ih57 (k + 1) ls _ _ (by omega) (by omega) (fun j h1 h2 => by rcases Nat.lt_or_ge j k with h3 | h3; exact hk2 j h1 h3; rw [show j = k by omega]; exact c_27) (lv_sub hl [0, 1, 2] rfl) hw
      exact LP57 ((ns - (si + 1)) + 1) (si + 1) ls _ _ (Nat.lt_succ_self _) (by omega) (fun j h1 h2 => by omega) (lv_sub hl [0, 1, 2] rfl) hw
    · skip
      refine lv_iconst (v := 0) hx hb dX8_countPolygons_51 (by decide) ?_
      rw [hQ]
      exact h_iret hx hb hr hlk hsz hw (by simp) (by simp) dX8_countPolygons_52 ⟨0, rfl, Or.inr (Or.inl ⟨c_6, c_12, rfl⟩), rfl⟩
  · skip
    refine lv_aload_n hx hb dX8_countPolygons_12 rfl (lv_at hl 0 rfl) ?_
    refine h_get (ci := 8) (v := .ref (RO 0)) (C := RX8) (T := TX8) (N := 8) hx hb hts kl_X8 hown hK hw hs.1 rfl 0 (by decide) (hts _ kf_X8_12) rfl rfl dX8_countPolygons_13 ?_
    refine lv_aload_n hx hb dX8_countPolygons_16 rfl (lv_at hl 0 rfl) ?_
    refine h_get (ci := 8) (v := .ref (RO 1)) (C := RX8) (T := TX8) (N := 8) hx hb hts kl_X8 hown hK hw hs.1 rfl 1 (by decide) (hts _ kf_X8_18) rfl rfl dX8_countPolygons_17 ?_
    refine lv_iload_n hx hb dX8_countPolygons_20 rfl (lv_at hl 1 rfl) ?_
    refine h_callV (n := 1) (ci := 6) (b := (RO 1)) (As := [.int (nI si)]) (rest := [.ref (RO 0)]) ⟨hx, hb, hml, hown, hts⟩ hK hw (c_X6_get l D dT ah H_3.size (RO 1) (RA 1) (cap 1) ns (f 1) (by omega) (by omega) (hs.2.1 1 (by omega)).1 (hs.2.1 1 (by omega)).2.1 (nI si)) ko_X6_get km_X8_47 ki_X6_get ks_X6_get kn_X6 (by decide +kernel) rfl (hs.2.1 1 (by omega)).1 rfl hl.1 rfl (by simp [Value.category]) dX8_countPolygons_21 (by rw [hR]; exact ⟨rfl, rfl, Nat.le_of_ble_eq_true rfl, Nat.le_of_ble_eq_true rfl, by simp, by simp⟩) (fun r_31 ah_32 H_33 L_34 st_35 hp hw hst => ?_)
    obtain ⟨rfl, rfl⟩ := hp
    have hst : st_35 = [.int (rwGet (f 1) ns (nI si)), .ref (RO 0)] := hst
    subst hst
    refine h_callV (n := 1) (ci := 6) (b := (RO 0)) (As := [.int (rwGet (f 1) ns (nI si))]) (rest := []) ⟨hx, hb, hml, hown, hts⟩ hK hw (c_X6_get l D dT ah H_33.size (RO 0) (RA 0) (cap 0) ns (f 0) (by omega) (by omega) (hs.2.1 0 (by omega)).1 (hs.2.1 0 (by omega)).2.1 (rwGet (f 1) ns (nI si))) ko_X6_get km_X8_47 ki_X6_get ks_X6_get kn_X6 (by decide +kernel) rfl (hs.2.1 0 (by omega)).1 rfl hl.1 rfl (by simp [Value.category]) dX8_countPolygons_24 (by rw [hR]; exact ⟨rfl, rfl, Nat.le_of_ble_eq_true rfl, Nat.le_of_ble_eq_true rfl, by simp, by simp⟩) (fun r_36 ah_37 H_38 L_39 st_40 hp hw hst => ?_)
    obtain ⟨rfl, rfl⟩ := hp
    have hst : st_40 = [.int (rwGet (f 0) ns (rwGet (f 1) ns (nI si)))] := hst
    subst hst
    refine lv_bipush (v := 6) hx hb dX8_countPolygons_27 (by decide) ?_
    refine lv_icmp_ne (tgt := 36) hx hb dX8_countPolygons_29 (by decide) (fun c_41 => ?_) (fun c_41 => ?_)
    · skip
      refine lv_iconst (v := 1) hx hb dX8_countPolygons_36 (by decide) ?_
      rw [hQ]
      exact h_iret hx hb hr hlk hsz hw (by simp) (by simp) dX8_countPolygons_37 ⟨1, rfl, Or.inl ⟨c_6, Or.inr ⟨c_41, rfl⟩⟩, rfl⟩
    · skip
      refine lv_iconst (v := 0) hx hb dX8_countPolygons_32 (by decide) ?_
      refine lv_goto (tgt := 37) hx hb dX8_countPolygons_33 (by decide) ?_
      rw [hQ]
      exact h_iret hx hb hr hlk hsz hw (by simp) (by simp) dX8_countPolygons_37 ⟨0, rfl, Or.inl ⟨c_6, Or.inl ⟨c_41, rfl⟩⟩, rfl⟩

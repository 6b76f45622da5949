/-! ShapeJudgeModel: a polygon -/
theorem fI_p {R : Nat → Nat} {F i j k : Nat} : (if F + j = F + i then nI (R (F + i) + k + 1) else nI (R (F + j))) = nI (R (F + j) + fI i j k) := by
  unfold fI
  by_cases e : i = j
  · subst e; rw [if_pos rfl, if_pos rfl, Nat.add_assoc]
  · rw [if_neg (by omega), if_neg e, Nat.add_zero]
def prB (X Y : Nat → Int32) (RP RN : Nat → Nat) (F : Nat) (sh pt : Int32) (pl : Nat → Int32) (i ka j kb : Nat) : fT :=
  if kb < fI i j ka then none else if mSeg X Y (RP (F + j) + kb) = false then none else if mPr X Y RP RN (F + i) (RP (F + i) + ka) (F + j) (RP (F + j) + kb) ≤ 0 then none else
  some (mPr X Y RP RN (F + i) (RP (F + i) + ka) (F + j) (RP (F + j) + kb), p2 (p1 (upd pl 0 sh) pt (nI i) (nI ka)) pt (nI j) (nI kb))
def prJ (X Y : Nat → Int32) (RP RN : Nat → Nat) (F : Nat) (sh pt : Int32) (pl : Nat → Int32) (i ka j : Nat) : fT := if j < i then none else firstO (RN (F + j) - 1) (prB X Y RP RN F sh pt pl i ka j)
def prA (X Y : Nat → Int32) (RP RN : Nat → Nat) (F : Nat) (sh pt : Int32) (pl : Nat → Int32) (rc i ka : Nat) : fT := if mSeg X Y (RP (F + i) + ka) = false then none else firstO rc (prJ X Y RP RN F sh pt pl i ka)
def prI (X Y : Nat → Int32) (RP RN : Nat → Nat) (F : Nat) (sh pt : Int32) (pl : Nat → Int32) (rc i : Nat) : fT := firstO (RN (F + i) - 1) (prA X Y RP RN F sh pt pl rc i)
section
variable {X Y : Nat → Int32} {RP RN : Nat → Nat} {F : Nat} {sh pt : Int32} {pl : Nat → Int32} {rc i ka j kb : Nat}
theorem prA_s (h : mSeg X Y (RP (F + i) + ka) = false) : prA X Y RP RN F sh pt pl rc i ka = none := if_pos h
theorem prA_n (h : ∀ j, j < rc → prJ X Y RP RN F sh pt pl i ka j = none) : prA X Y RP RN F sh pt pl rc i ka = none := by unfold prA; rw [firstO_none h]; simp
theorem prA_y {x : Int32 × (Nat → Int32)} (h0 : ¬ mSeg X Y (RP (F + i) + ka) = false) (h : firstO rc (prJ X Y RP RN F sh pt pl i ka) = some x) : prA X Y RP RN F sh pt pl rc i ka = some x := by unfold prA; rw [if_neg h0, h]
theorem prJ_n (h : ∀ x, x < RN (F + j) - 1 → prB X Y RP RN F sh pt pl i ka j x = none) : prJ X Y RP RN F sh pt pl i ka j = none := by unfold prJ; rw [firstO_none h]; simp
theorem prJ_y {x : Int32 × (Nat → Int32)} (h0 : i ≤ j) (h : firstO (RN (F + j) - 1) (prB X Y RP RN F sh pt pl i ka j) = some x) : prJ X Y RP RN F sh pt pl i ka j = some x := by unfold prJ; rw [if_neg (by omega), h]
theorem prB_g (h : mSeg X Y (RP (F + j) + kb) = false) : prB X Y RP RN F sh pt pl i ka j kb = none := by unfold prB; rw [if_pos h]; simp
theorem prB_n (h : mPr X Y RP RN (F + i) (RP (F + i) + ka) (F + j) (RP (F + j) + kb) ≤ 0) : prB X Y RP RN F sh pt pl i ka j kb = none := by unfold prB; split; rfl; split; rfl; first | rfl | rw [if_pos h]
theorem prB_s (h0 : fI i j ka ≤ kb) (h1 : ¬ mSeg X Y (RP (F + j) + kb) = false) (h : ¬ mPr X Y RP RN (F + i) (RP (F + i) + ka) (F + j) (RP (F + j) + kb) ≤ 0) : prB X Y RP RN F sh pt pl i ka j kb = some (mPr X Y RP RN (F + i) (RP (F + i) + ka) (F + j) (RP (F + j) + kb), p2 (p1 (upd pl 0 sh) pt (nI i) (nI ka)) pt (nI j) (nI kb)) := by
  unfold prB; rw [if_neg (by omega), if_neg h1, if_neg h]
end
def onI (o : Option Nat) : Int32 := match o with
  | none => -1
  | some k => nI k
/-- the joining at one point, up to the k-th ring: the first one that passes, whether it goes round, the groups -/
def mjS (P : Nat → Bool) (n : Nat) (f : Nat → Int32) : Nat → Option Nat × Bool × (Nat → Int32)
  | 0 => (none, false, f)
  | k + 1 => if P k = false then mjS P n f k else match (mjS P n f k).1 with
    | none => (some k, (mjS P n f k).2.1, (mjS P n f k).2.2)
    | some o => (some o, ((mjS P n f k).2.1 || decide ((mjS P n f k).2.2 k = (mjS P n f k).2.2 o)), renF (mjS P n f k).2.2 ((mjS P n f k).2.2 k) ((mjS P n f k).2.2 o) n)
theorem mjS_f {P : Nat → Bool} {n k : Nat} {f : Nat → Int32} (h : P k = false) : mjS P n f (k + 1) = mjS P n f k := by rw [mjS, if_pos h]
theorem mjS_1 {P : Nat → Bool} {n k : Nat} {f : Nat → Int32} (h : ¬ P k = false) (h1 : (mjS P n f k).1 = none) : mjS P n f (k + 1) = (some k, (mjS P n f k).2.1, (mjS P n f k).2.2) := by rw [mjS, if_neg h, h1]
theorem mjS_2 {P : Nat → Bool} {n k o : Nat} {f : Nat → Int32} (h : ¬ P k = false) (h1 : (mjS P n f k).1 = some o) : mjS P n f (k + 1) = (some o, ((mjS P n f k).2.1 || decide ((mjS P n f k).2.2 k = (mjS P n f k).2.2 o)), renF (mjS P n f k).2.2 ((mjS P n f k).2.2 k) ((mjS P n f k).2.2 o) n) := by rw [mjS, if_neg h, h1]
theorem mjS_o {P : Nat → Bool} {n k o : Nat} {f : Nat → Int32} (h : (mjS P n f k).1 = some o) : o < k := by
  induction k generalizing o with
  | zero => cases h
  | succ k ih =>
    by_cases hp : P k = false
    · rw [mjS_f hp] at h; have := ih h; omega
    · cases h1 : (mjS P n f k).1 with
      | none => rw [mjS_1 hp h1] at h; cases h; omega
      | some o2 => rw [mjS_2 hp h1] at h; cases h; have := ih h1; omega
theorem bI_or {b : Bool} {P : Prop} [Decidable P] : bI (b || decide P) = if P then 1 else bI b := by by_cases h : P <;> simp [h, bI_t]
theorem ren_s {f : Nat → Int32} {k o j : Nat} {v : Int32} (hv : v = if renF f (f k) (f o) j j = f k then renF f (f k) (f o) j o else renF f (f k) (f o) j j) : upd (renF f (f k) (f o) j) j v = renF f (f k) (f o) (j + 1) := by
  have h1 : renF f (f k) (f o) j j = f j := by simp [renF]
  have h2 : renF f (f k) (f o) j o = f o := by
    simp only [renF]; split
    · split <;> rfl
    · rfl
  rw [h1, h2] at hv
  funext i
  simp only [upd]
  by_cases e : i = j
  · subst e; rw [if_pos rfl, hv]; simp [renF]
  · rw [if_neg e]; simp only [renF]
    by_cases h : i < j
    · rw [if_pos h, if_pos (show i < j + 1 by omega)]
    · rw [if_neg h, if_neg (show ¬ i < j + 1 by omega)]
/-- groups that are the same as far as they are looked at give the same -/
theorem mjS_c {P : Nat → Bool} {n : Nat} {f f2 : Nat → Int32} (h : ∀ j, j < n → f j = f2 j) (k : Nat) (hk : k ≤ n) : (mjS P n f k).1 = (mjS P n f2 k).1 ∧ (mjS P n f k).2.1 = (mjS P n f2 k).2.1 ∧ ∀ j, j < n → (mjS P n f k).2.2 j = (mjS P n f2 k).2.2 j := by
  induction k with
  | zero => exact ⟨rfl, rfl, h⟩
  | succ k ih =>
    obtain ⟨h1, h2, h3⟩ := ih (by omega)
    by_cases hp : P k = false
    · rw [mjS_f hp, mjS_f hp]; exact ⟨h1, h2, h3⟩
    · cases ho : (mjS P n f k).1 with
      | none => rw [mjS_1 hp ho, mjS_1 hp (h1.symm.trans ho)]; exact ⟨rfl, h2, h3⟩
      | some o =>
        have hok := mjS_o ho
        rw [mjS_2 hp ho, mjS_2 hp (h1.symm.trans ho)]
        refine ⟨rfl, ?_, fun j hj => ?_⟩
        · show (_ || _) = (_ || _); rw [h2, h3 k (by omega), h3 o (by omega)]
        · show renF _ _ _ n j = renF _ _ _ n j
          simp only [renF, if_pos hj]; rw [h3 j hj, h3 k (by omega), h3 o (by omega)]
def idG (f : Nat → Int32) (i : Nat) : Nat → Int32 := fun j => if j < i then nI j else f j
theorem idG_s {f : Nat → Int32} {i : Nat} : upd (idG f i) i (nI i) = idG f (i + 1) := by
  funext j
  simp only [idG, upd]
  by_cases e : j = i
  · subst e; simp
  · rw [if_neg e]
    by_cases h : j < i
    · rw [if_pos h, if_pos (show j < i + 1 by omega)]
    · rw [if_neg h, if_neg (show ¬ j < i + 1 by omega)]
theorem moK_13 {dT : Nat → ClassId} {ah ah1 ah2 : hA} {mo : Nat} {AR : Nat → Nat} {q q1 : Nat → Int32} {g : Nat → Nat → Int32} {f f2 : Nat → Int32} (h : moK dT ah ah1 mo AR q g q1 (va_up g 13 f)) (e : ah2 = hup ah1 (AR 13) (.inl (dT 0, 4096, .inl f2))) : moK dT ah ah2 mo AR q g q1 (va_up g 13 f2) := by
  have h1 := moK_g h 13 (Or.inr rfl) (show ah2 = hup ah1 (AR 13) (.inl (dT 0, LN 13, .inl f2)) from e)
  rw [show va_up (va_up g 13 f) 13 f2 = va_up g 13 f2 from by funext j; simp only [va_up]; split <;> rfl] at h1
  exact h1
/-- the groups before the i-th point of the rings; none once it goes round -/
def spM (X Y : Nat → Int32) (RP RN : Nat → Nat) (F rc : Nat) : Nat → Option (Nat → Int32)
  | 0 => some (idF rc)
  | i + 1 => (spM X Y RP RN F rc i).bind (fun h => if mFst X Y (RP F + i) (RP F) = false then some h else
    if (mjS (fun k9 => mOnR X Y RP RN (X (RP F + i)) (Y (RP F + i)) (F + k9)) rc h rc).2.1 = false then some (mjS (fun k9 => mOnR X Y RP RN (X (RP F + i)) (Y (RP F + i)) (F + k9)) rc h rc).2.2 else none)
def spO (X Y : Nat → Int32) (RP RN : Nat → Nat) (F rc : Nat) (sh pt : Int32) (pl : Nat → Int32) : fT :=
  if (spM X Y RP RN F rc (RP (F + rc - 1) + RN (F + rc - 1) - RP F)).isNone = true then some (8, p1 (upd pl 0 sh) pt (-1) (-1)) else none
section
variable {X Y : Nat → Int32} {RP RN : Nat → Nat} {F rc i : Nat} {h G : Nat → Int32} {sh pt : Int32} {pl : Nat → Int32}
theorem spM_f (hs : spM X Y RP RN F rc i = some h) (h1 : mFst X Y (RP F + i) (RP F) = false) : spM X Y RP RN F rc (i + 1) = some h := by rw [spM, hs]; show (if _ then _ else _) = _; rw [if_pos h1]
theorem spM_j (hs : spM X Y RP RN F rc i = some h) (h1 : ¬ mFst X Y (RP F + i) (RP F) = false) (ha : ∀ j, j < rc → G j = h j) (h2 : (mjS (fun k9 => mOnR X Y RP RN (X (RP F + i)) (Y (RP F + i)) (F + k9)) rc G rc).2.1 = false) : spM X Y RP RN F rc (i + 1) = some (mjS (fun k9 => mOnR X Y RP RN (X (RP F + i)) (Y (RP F + i)) (F + k9)) rc h rc).2.2 := by
  rw [spM, hs]; show (if _ then _ else _) = _; rw [if_neg h1, if_pos ((mjS_c ha rc (Nat.le_refl _)).2.1.symm.trans h2)]
theorem spM_y (hs : spM X Y RP RN F rc i = some h) (h1 : ¬ mFst X Y (RP F + i) (RP F) = false) (ha : ∀ j, j < rc → G j = h j) (h2 : ¬ (mjS (fun k9 => mOnR X Y RP RN (X (RP F + i)) (Y (RP F + i)) (F + k9)) rc G rc).2.1 = false) : spM X Y RP RN F rc (i + 1) = none := by
  rw [spM, hs]; show (if _ then _ else _) = _; rw [if_neg h1, if_neg (fun h9 => h2 ((mjS_c ha rc (Nat.le_refl _)).2.1.trans h9))]
theorem spM_up {n : Nat} (hs : spM X Y RP RN F rc i = none) (hn : i ≤ n) : spM X Y RP RN F rc n = none := by
  induction n with
  | zero => rw [show i = 0 by omega] at hs; exact hs
  | succ n ih =>
    by_cases e : i = n + 1
    · rw [← e]; exact hs
    · rw [spM, ih (by omega)]; rfl
theorem spO_n (hs : spM X Y RP RN F rc (RP (F + rc - 1) + RN (F + rc - 1) - RP F) = some h) : spO X Y RP RN F rc sh pt pl = none := by unfold spO; rw [hs]; rfl
theorem spO_s (hi : i + 1 ≤ RP (F + rc - 1) + RN (F + rc - 1) - RP F) (hs : spM X Y RP RN F rc (i + 1) = none) : spO X Y RP RN F rc sh pt pl = some (8, p1 (upd pl 0 sh) pt (-1) (-1)) := by unfold spO; rw [spM_up hs hi]; rfl
end
/-- a polygon of the model -/
def poM (X Y : Nat → Int32) (RP RN : Nat → Nat) (F rc : Nat) (sh pt : Int32) (pl : Nat → Int32) : fT :=
  if rc = 0 then none else oe (firstO rc (rgO X Y RP RN F sh pt pl)) (oe (firstO rc (prI X Y RP RN F sh pt pl rc)) (oe (oe (firstO rc (hoM X Y RP RN F sh pt pl)) (firstO rc (fun i => firstO rc (phM X Y RP RN F sh pt pl i)))) (spO X Y RP RN F rc sh pt pl)))
theorem firstO_no {α : Type} {n : Nat} {g : Nat → Option α} (h : firstO n g = none) : ∀ k, k < n → g k = none := by
  induction n with
  | zero => intro k hk; omega
  | succ n ih =>
    have h1 : firstO n g = none := by
      cases h2 : firstO n g with
      | none => rfl
      | some x => simp [firstO, h2] at h
    rw [firstO_s h1] at h
    intro k hk
    by_cases e : k = n
    · rw [e]; exact h
    · exact ih h1 k (by omega)
theorem cntF_1 {X Y : Nat → Int32} {p n : Nat} (h : ∀ k, k < n - 1 → mSeg X Y (p + k) = false) : cntF X Y p n ≤ 1 := by
  have hs : ∀ k, k < n → smP X Y (p + 0) (p + k) = true := by
    intro k
    induction k with
    | zero => intro _; simp [smP]
    | succ k ih =>
      intro hk
      have h1 := ih (by omega)
      have h2 := h k (by omega)
      unfold mSeg at h2
      have h3 : smP X Y (p + k) (p + k + 1) = true := by cases h4 : smP X Y (p + k) (p + k + 1) <;> simp [h4] at h2 ⊢
      rw [smP_iff] at h1 h3 ⊢
      exact ⟨h1.1.trans h3.1, h1.2.trans h3.2⟩
  have hk : ∀ k, k ≤ n → cntF X Y p k ≤ 1 := by
    intro k
    induction k with
    | zero => intro _; exact Nat.zero_le _
    | succ k ih =>
      intro hk
      have h1 := ih (by omega)
      show cntF X Y p k + frN X Y p k ≤ 1
      by_cases e : k = 0
      · subst e; have := frN_le X Y p 0; show 0 + frN X Y p 0 ≤ 1; omega
      · have : frN X Y p k = 0 := by
          unfold frN; rw [if_neg]
          rw [anyB_t (f := fun i9 => smP X Y (p + i9) (p + k)) (i := 0) (by omega) (hs k (by omega))]; decide
        omega
  exact hk n (Nat.le_refl _)
theorem rgO_seg {X Y : Nat → Int32} {RP RN : Nat → Nat} {F rc : Nat} {sh pt : Int32} {pl : Nat → Int32} (h : firstO rc (rgO X Y RP RN F sh pt pl) = none) : ∀ k, k < rc → ∃ k2, k2 < RN (F + k) - 1 ∧ mSeg X Y (RP (F + k) + k2) = true := by
  intro k hk
  have h1 := firstO_no h k hk
  unfold rgO at h1
  by_cases h2 : RN (F + k) = 0 ∨ smP X Y (RP (F + k)) (RP (F + k) + RN (F + k) - 1) = false
  · rw [if_pos h2] at h1; cases h1
  · rw [if_neg h2] at h1
    by_cases h3 : mFew X Y (RP (F + k)) (RN (F + k)) 3 = false
    · apply Classical.byContradiction
      intro h4
      have h5 := cntF_1 (X := X) (Y := Y) (p := RP (F + k)) (n := RN (F + k)) (fun k2 hk2 => by
        cases h6 : mSeg X Y (RP (F + k) + k2) with
        | false => rfl
        | true => exact absurd ⟨k2, hk2, h6⟩ h4)
      unfold mFew at h3
      have h7 := of_decide_eq_false h3
      omega
    · rw [if_neg h3] at h1; cases h1
section
variable {X Y : Nat → Int32} {RP RN : Nat → Nat} {F rc : Nat} {sh pt v : Int32} {pl pl2 : Nat → Int32}
theorem moRs_o {a b : fT} (h0 : a = none) (h : moRs b pl v pl2) : moRs (oe a b) pl v pl2 := by rw [oe_n0 h0]; exact h
theorem moRs_a {a b : fT} (hv : ¬ v = 0) (h : moRs a pl v pl2) : moRs (oe a b) pl v pl2 := by
  cases a with
  | none => exact absurd h.1 hv
  | some z => exact h
end
set_option maxHeartbeats 4000000 in
set_option maxRecDepth 100000 in
theorem c_X10_pairsOf (l : Launch) (D : va_G) (dT : Nat → ClassId) (ah : hA) (sz : Nat) (mo : Nat) (AR : Nat → Nat) (q : Nat → Int32) (g : Nat → Nat → Int32) (hm : moA dT ah mo AR q g) (np : Nat) (X Y : Nat → Int32) (hX : moX np g X Y) (nr : Nat) (RP RN : Nat → Nat) (hRg : moR np nr g RP RN) (ns : Nat) (FG RC PF PC : Nat → Nat) (KD WH PA : Nat → Int32) (hS : moS ns np nr g FG RC PF PC KD WH PA) (pl : Nat → Int32) (hpl : g 12 = pl) (s9 : Nat) (hs9 : s9 < ns) (sh9 pt9 : Int32) : hMet l yX10_pairsOf cX10_pairsOf 10 (some .int) ({ frames := 6, cells := 0, slots := 0, locals := 145 }) D dT [.ref mo, .int (nI s9), .int sh9, .int pt9] ah sz (fun r ah2 => moO dT ah ah2 mo AR q g pl (firstO (RC s9) (prI X Y RP RN (FG s9) sh9 pt9 pl (RC s9))) r) 0 0 := by
  refine h_met (by decide) (Nat.le_of_ble_eq_true rfl) ?_
  intro p e s m below meth c ls R Q args hav hR hQ hB hl hsz hw
  obtain ⟨hx, hb, hml, hr, hts, hown, hlk, hin, hK⟩ := hB
  have hown : s.vm.findClass RX10 = some m.cls := hown
  have hl : lv_has ls 10 [(0, .ref mo), (1, .int (nI s9)), (2, .int sh9), (3, .int pt9)] := hl
  have hnp := hX.1
  have hnr := hRg.1
  have hns9 := hS.1
  have hJ0 : moK dT ah ah mo AR q g q g := moK_r hm
  have hFR := (hS.2 s9 hs9).2.2.2.2.2.2.2.2
  refine lv_aload_n hx hb dX10_pairsOf_0 rfl (lv_at hl 0 rfl) ?_
  refine h_get (ci := 10) (v := .ref (AR 5)) (C := RX10) (T := TX10) (N := 26) hx hb hts kl_X10 hown hK hw hm.1 rfl 10 (by decide) (hts _ kf_X10_25) rfl rfl dX10_pairsOf_1 ?_
  refine lv_iload_n hx hb dX10_pairsOf_4 rfl (lv_at hl 1 rfl) ?_
  refine h_iald hx hb hK hw (moA_a (n := 2048) (f := g 5) hm 5 (by decide) rfl rfl) s9 rfl (by omega) (by omega) dX10_pairsOf_5 ?_
  rw [show (g 5) s9 = nI (FG s9) from (hS.2 _ (by omega)).2.2.2.2.2.1]
  refine lv_aload_n hx hb dX10_pairsOf_6 rfl (lv_at hl 0 rfl) ?_
  refine h_get (ci := 10) (v := .ref (AR 6)) (C := RX10) (T := TX10) (N := 26) hx hb hts kl_X10 hown hK hw hm.1 rfl 11 (by decide) (hts _ kf_X10_28) rfl rfl dX10_pairsOf_7 ?_
  refine lv_iload_n hx hb dX10_pairsOf_10 rfl (lv_at hl 1 rfl) ?_
  refine h_iald hx hb hK hw (moA_a (n := 2048) (f := g 6) hm 6 (by decide) rfl rfl) s9 rfl (by omega) (by omega) dX10_pairsOf_11 ?_
  rw [show (g 6) s9 = nI (RC s9) from (hS.2 _ (by omega)).2.2.2.2.2.2.1]
  refine lv_iadd hx hb dX10_pairsOf_12 ?_
  refine lv_topi (fun t_1 et_1 => ?_)
  obtain rfl : t_1 = nI (FG s9 + RC s9) := et_1.trans (nI_add _ _)
  refine lv_istore (lv' := [(4, .int (nI (FG s9 + RC s9))), (0, .ref mo), (1, .int (nI s9)), (2, .int sh9), (3, .int pt9)]) hx hb dX10_pairsOf_13 hl (by decide) rfl (fun ls hl => ?_)
  refine lv_aload_n hx hb dX10_pairsOf_15 rfl (lv_at hl 1 rfl) ?_
  refine h_get (ci := 10) (v := .ref (AR 5)) (C := RX10) (T := TX10) (N := 26) hx hb hts kl_X10 hown hK hw hm.1 rfl 10 (by decide) (hts _ kf_X10_25) rfl rfl dX10_pairsOf_16 ?_
  refine lv_iload_n hx hb dX10_pairsOf_19 rfl (lv_at hl 2 rfl) ?_
  refine h_iald hx hb hK hw (moA_a (n := 2048) (f := g 5) hm 5 (by decide) rfl rfl) s9 rfl (by omega) (by omega) dX10_pairsOf_20 ?_
  rw [show (g 5) s9 = nI (FG s9) from (hS.2 _ (by omega)).2.2.2.2.2.1]
  refine lv_istore (lv' := [(5, .int (nI (FG s9))), (4, .int (nI (FG s9 + RC s9))), (0, .ref mo), (1, .int (nI s9)), (2, .int sh9), (3, .int pt9)]) hx hb dX10_pairsOf_21 hl (by decide) rfl (fun ls hl => ?_)
  have LP23 : ∀ (k23 : Nat) (i : Nat) (q23 : Nat → Int32) (ah23 : hA) (ls : Array Slot) (H23 : Heap) (L23 : List Loc), (RC s9 - i < k23) → (moK dT ah ah23 mo AR q g q23 g) → (i ≤ RC s9) → (∀ j, j < i → prI X Y RP RN (FG s9) sh9 pt9 pl (RC s9) j = none) → lv_has ls 10 [(5, .int (nI (FG s9 + i))), (4, .int (nI (FG s9 + RC s9))), (3, .int pt9), (2, .int sh9), (1, .int (nI s9)), (0, .ref mo)] → hW D ah s.heap ah23 H23 L23 → W p l e R s m args below meth c H23 L23 (0) (0) Q (F0 m 23 ls []) := by
    intro k23
    induction k23 with
    | zero => intro i q23 ah23 ls H23 L23 hk; exact absurd hk (Nat.not_lt_zero _)
    | succ k23 ih23 =>
      intro i q23 ah23 ls H23 L23 hk23 hJ23 hi23 hp23 hl hw
      have hri : i < RC s9 → RP (FG s9 + i) + RN (FG s9 + i) ≤ np := fun h9 => (hRg.2 _ (by omega)).2.2
      refine lv_iload hx hb dX10_pairsOf_23 (lv_at hl 0 rfl) ?_
      refine lv_iload hx hb dX10_pairsOf_25 (lv_at hl 1 rfl) ?_
      refine lv_icmp_ge (tgt := 212) hx hb dX10_pairsOf_27 (by decide) (fun c_2 => ?_) (fun c_2 => ?_)
      · skip
        have c_2 : FG s9 + RC s9 ≤ FG s9 + i := (nI_lex (by rfl) (by rfl) (by omega) (by omega)).mp c_2
        refine lv_iconst (v := 0) hx hb dX10_pairsOf_212 (by decide) ?_
        rw [hQ]
        exact h_iret hx hb hr hlk hsz hw (by simp) (by simp) dX10_pairsOf_213 ⟨_, q23, g, rfl, hJ23, (by rw [show firstO (RC s9) (prI X Y RP RN (FG s9) sh9 pt9 pl (RC s9)) = none from firstO_none (fun j hj => hp23 j (by omega))]; exact ⟨rfl, hpl⟩)⟩
      · skip
        have c_2 : ¬ (FG s9 + RC s9 ≤ FG s9 + i) := (not_congr (nI_lex (by rfl) (by rfl) (by omega) (by omega))).mp c_2
        refine lv_aload_n hx hb dX10_pairsOf_30 rfl (lv_at hl 5 rfl) ?_
        refine h_get (ci := 10) (v := .ref (AR 7)) (C := RX10) (T := TX10) (N := 26) hx hb hts kl_X10 hown hK hw hJ23.1.1 rfl 12 (by decide) (hts _ kf_X10_31) rfl rfl dX10_pairsOf_31 ?_
        refine lv_iload hx hb dX10_pairsOf_34 (lv_at hl 0 rfl) ?_
        refine h_iald hx hb hK hw (moA_a (n := 4096) (f := g 7) hJ23.1 7 (by decide) rfl rfl) (FG s9 + i) rfl (by omega) (by omega) dX10_pairsOf_36 ?_
        rw [show (g 7) (FG s9 + i) = nI (RP (FG s9 + i)) from (hRg.2 _ (by omega)).1]
        refine lv_istore (lv' := [(6, .int (nI (RP (FG s9 + i)))), (5, .int (nI (FG s9 + i))), (4, .int (nI (FG s9 + RC s9))), (3, .int pt9), (2, .int sh9), (1, .int (nI s9)), (0, .ref mo)]) hx hb dX10_pairsOf_37 hl (by decide) rfl (fun ls hl => ?_)
        have LP39 : ∀ (k39 : Nat) (ka : Nat) (q39 : Nat → Int32) (ah39 : hA) (ls : Array Slot) (H39 : Heap) (L39 : List Loc), (RN (FG s9 + i) - ka < k39) → (moK dT ah ah39 mo AR q g q39 g) → (ka ≤ RN (FG s9 + i) - 1) → (∀ j, j < ka → prA X Y RP RN (FG s9) sh9 pt9 pl (RC s9) i j = none) → lv_has ls 10 [(6, .int (nI (RP (FG s9 + i) + ka))), (5, .int (nI (FG s9 + i))), (4, .int (nI (FG s9 + RC s9))), (3, .int pt9), (2, .int sh9), (1, .int (nI s9)), (0, .ref mo)] → hW D ah s.heap ah39 H39 L39 → W p l e R s m args below meth c H39 L39 (0) (0) Q (F0 m 39 ls []) := by
          intro k39
          induction k39 with
          | zero => intro ka q39 ah39 ls H39 L39 hk; exact absurd hk (Nat.not_lt_zero _)
          | succ k39 ih39 =>
            intro ka q39 ah39 ls H39 L39 hk39 hJ39 hk39 hp39 hl hw
            have hri := hri (by omega)
            refine lv_iload hx hb dX10_pairsOf_39 (lv_at hl 0 rfl) ?_
            refine lv_aload_n hx hb dX10_pairsOf_41 rfl (lv_at hl 6 rfl) ?_
            refine lv_iload hx hb dX10_pairsOf_42 (lv_at hl 1 rfl) ?_
            refine h_callV (n := 1) (ci := 10) (b := mo) (As := [.int (nI (FG s9 + i))]) (rest := [.int (nI (RP (FG s9 + i) + ka))]) ⟨hx, hb, hml, hown, hts⟩ hK hw (c_X10_end l D dT ah39 H39.size mo AR q39 g hJ39.1 np X Y hX nr RP RN hRg (FG s9 + i) (by omega)) ko_X10_end km_X10_129 ki_X10_end ks_X10_end kn_X10 (by decide +kernel) rfl hJ39.1.1 rfl hl.1 rfl (by simp [Value.category]) dX10_pairsOf_44 (by rw [hR]; exact ⟨rfl, rfl, Nat.le_of_ble_eq_true rfl, Nat.le_of_ble_eq_true rfl, by simp, by simp⟩) (fun r_3 ah_4 H_5 L_6 st_7 hp hw hst => ?_)
            obtain ⟨rfl, rfl⟩ := hp
            have hst : st_7 = [.int (nI (RP (FG s9 + i) + RN (FG s9 + i)) - 1), .int (nI (RP (FG s9 + i) + ka))] := hst
            subst hst
            refine lv_icmp_ge (tgt := 206) hx hb dX10_pairsOf_47 (by decide) (fun c_8 => ?_) (fun c_8 => ?_)
            · skip
              have c_8 : RP (FG s9 + i) + RN (FG s9 + i) ≤ RP (FG s9 + i) + ka + 1 := (nIm_le (by omega) (by omega)).mp c_8
              refine lv_iinc (v := nI (FG s9 + i + 1)) (lv' := [(5, .int (nI (FG s9 + i + 1))), (6, .int (nI (RP (FG s9 + i) + ka))), (4, .int (nI (FG s9 + RC s9))), (3, .int pt9), (2, .int sh9), (1, .int (nI s9)), (0, .ref mo)]) hx hb dX10_pairsOf_206 hl (k := 1) rfl (nI_c _ 1) (by decide) rfl (fun ls hl => ?_)
              refine lv_goto (tgt := 23) hx hb dX10_pairsOf_209 (by decide) ?_
              refine W.widen (k := 0) (n := 0) (by omega) (by omega) ?_
              exact ih23 (i + 1) q39 ah39 ls _ _ (by omega) hJ39 (by omega) (lt_o hp23 (firstO_none (fun j hj => hp39 j (by omega)))) (lv_sub hl [0, 2, 3, 4, 5, 6] rfl) hw
            · skip
              have c_8 : ¬ (RP (FG s9 + i) + RN (FG s9 + i) ≤ RP (FG s9 + i) + ka + 1) := (not_congr (nIm_le (by omega) (by omega))).mp c_8
              refine lv_iload hx hb dX10_pairsOf_50 (lv_at hl 1 rfl) ?_
              refine lv_istore (lv' := [(7, .int (nI (FG s9 + i))), (6, .int (nI (RP (FG s9 + i) + ka))), (5, .int (nI (FG s9 + i))), (4, .int (nI (FG s9 + RC s9))), (3, .int pt9), (2, .int sh9), (1, .int (nI s9)), (0, .ref mo)]) hx hb dX10_pairsOf_52 hl (by decide) rfl (fun ls hl => ?_)
              have LP54 : ∀ (k54 : Nat) (j : Nat) (q54 : Nat → Int32) (ah54 : hA) (ls : Array Slot) (H54 : Heap) (L54 : List Loc), (RC s9 - j < k54) → (moK dT ah ah54 mo AR q g q54 g) → (i ≤ j) → (j ≤ RC s9) → (∀ x, x < j → prJ X Y RP RN (FG s9) sh9 pt9 pl i ka x = none) → lv_has ls 10 [(7, .int (nI (FG s9 + j))), (6, .int (nI (RP (FG s9 + i) + ka))), (5, .int (nI (FG s9 + i))), (4, .int (nI (FG s9 + RC s9))), (3, .int pt9), (2, .int sh9), (1, .int (nI s9)), (0, .ref mo)] → hW D ah s.heap ah54 H54 L54 → W p l e R s m args below meth c H54 L54 (0 + 0) (0 + 0) Q (F0 m 54 ls []) := by
                intro k54
                induction k54 with
                | zero => intro j q54 ah54 ls H54 L54 hk; exact absurd hk (Nat.not_lt_zero _)
                | succ k54 ih54 =>
                  intro j q54 ah54 ls H54 L54 hk54 hJ54 hj54 hj55 hp54 hl hw
                  have hrj : j < RC s9 → RP (FG s9 + j) + RN (FG s9 + j) ≤ np := fun h9 => (hRg.2 _ (by omega)).2.2
                  refine lv_iload hx hb dX10_pairsOf_54 (lv_at hl 0 rfl) ?_
                  refine lv_iload hx hb dX10_pairsOf_56 (lv_at hl 3 rfl) ?_
                  refine lv_icmp_ge (tgt := 200) hx hb dX10_pairsOf_58 (by decide) (fun c_10 => ?_) (fun c_10 => ?_)
                  · skip
                    have c_10 : FG s9 + RC s9 ≤ FG s9 + j := (nI_lex (by rfl) (by rfl) (by omega) (by omega)).mp c_10
                    refine lv_iinc (v := nI (RP (FG s9 + i) + ka + 1)) (lv' := [(6, .int (nI (RP (FG s9 + i) + ka + 1))), (7, .int (nI (FG s9 + j))), (5, .int (nI (FG s9 + i))), (4, .int (nI (FG s9 + RC s9))), (3, .int pt9), (2, .int sh9), (1, .int (nI s9)), (0, .ref mo)]) hx hb dX10_pairsOf_200 hl (k := 1) rfl (nI_c _ 1) (by decide) rfl (fun ls hl => ?_)
                    refine lv_goto (tgt := 39) hx hb dX10_pairsOf_203 (by decide) ?_
                    refine W.widen (k := 0) (n := 0) (by omega) (by omega) ?_
                    exact ih39 (ka + 1) q54 ah54 ls _ _ (by omega) hJ54 (by omega) (lt_o hp39 (prA_n (fun j hj => hp54 j (by omega)))) (lv_sub hl [0, 2, 3, 4, 5, 6, 7] rfl) hw
                  · skip
                    have c_10 : ¬ (FG s9 + RC s9 ≤ FG s9 + j) := (not_congr (nI_lex (by rfl) (by rfl) (by omega) (by omega))).mp c_10
                    refine lv_aload_n hx hb dX10_pairsOf_61 rfl (lv_at hl 7 rfl) ?_
                    refine lv_iload hx hb dX10_pairsOf_62 (lv_at hl 1 rfl) ?_
                    refine h_callV (n := 1) (ci := 10) (b := mo) (As := [.int (nI (RP (FG s9 + i) + ka))]) (rest := []) ⟨hx, hb, hml, hown, hts⟩ hK hw (c_X10_isSegment l D dT ah54 H54.size mo AR q54 g hJ54.1 np X Y hX (RP (FG s9 + i) + ka) (by omega)) ko_X10_isSegment km_X10_132 ki_X10_isSegment ks_X10_isSegment kn_X10 (by decide +kernel) rfl hJ54.1.1 rfl hl.1 rfl (by simp [Value.category]) dX10_pairsOf_64 (by rw [hR]; exact ⟨rfl, rfl, Nat.le_of_ble_eq_true rfl, Nat.le_of_ble_eq_true rfl, by simp, by simp⟩) (fun r_12 ah_13 H_14 L_15 st_16 hp hw hst => ?_)
                    obtain ⟨rfl, rfl⟩ := hp
                    have hst : st_16 = [.int (bI (mSeg X Y (RP (FG s9 + i) + ka)))] := hst
                    subst hst
                    refine lv_if_eq (tgt := 200) hx hb dX10_pairsOf_67 (by decide) (fun c_17 => ?_) (fun c_17 => ?_)
                    · skip
                      have c_17 : mSeg X Y (RP (FG s9 + i) + ka) = false := bI_0.mp c_17
                      refine lv_iinc (v := nI (RP (FG s9 + i) + ka + 1)) (lv' := [(6, .int (nI (RP (FG s9 + i) + ka + 1))), (7, .int (nI (FG s9 + j))), (5, .int (nI (FG s9 + i))), (4, .int (nI (FG s9 + RC s9))), (3, .int pt9), (2, .int sh9), (1, .int (nI s9)), (0, .ref mo)]) hx hb dX10_pairsOf_200 hl (k := 1) rfl (nI_c _ 1) (by decide) rfl (fun ls hl => ?_)
                      refine lv_goto (tgt := 39) hx hb dX10_pairsOf_203 (by decide) ?_
                      refine W.widen (k := 0) (n := 0) (by omega) (by omega) ?_
                      exact ih39 (ka + 1) q54 ah54 ls _ _ (by omega) hJ54 (by omega) (lt_o hp39 (prA_s c_17)) (lv_sub hl [0, 2, 3, 4, 5, 6, 7] rfl) hw
                    · skip
                      have c_17 : ¬ (mSeg X Y (RP (FG s9 + i) + ka) = false) := (not_congr bI_0).mp c_17
                      refine lv_iload hx hb dX10_pairsOf_70 (lv_at hl 0 rfl) ?_
                      refine lv_iload hx hb dX10_pairsOf_72 (lv_at hl 2 rfl) ?_
                      have J_22 : ∀ (v_21 : Int32) (ls : Array Slot), lv_has ls 10 [(7, .int (nI (FG s9 + j))), (6, .int (nI (RP (FG s9 + i) + ka))), (5, .int (nI (FG s9 + i))), (4, .int (nI (FG s9 + RC s9))), (3, .int pt9), (2, .int sh9), (1, .int (nI s9)), (0, .ref mo)] → v_21 = (if FG s9 + j = FG s9 + i then nI (RP (FG s9 + i) + ka + 1) else nI (RP (FG s9 + j))) → W p l e R s m args below meth c H_14 L_15 (0 + 0 + 0) (0 + 0 + 0) Q (F0 m 91 ls [.int v_21]) := by
                        intro v_21 ls hl ev_21
                        have hv9 : v_21 = nI (RP (FG s9 + j) + fI i j ka) := ev_21.trans fI_p
                        subst hv9
                        have hsa := c_17
                        have hrj := hrj (by omega)
                        refine lv_istore (lv' := [(8, .int (nI (RP (FG s9 + j) + fI i j ka))), (7, .int (nI (FG s9 + j))), (6, .int (nI (RP (FG s9 + i) + ka))), (5, .int (nI (FG s9 + i))), (4, .int (nI (FG s9 + RC s9))), (3, .int pt9), (2, .int sh9), (1, .int (nI s9)), (0, .ref mo)]) hx hb dX10_pairsOf_91 hl (by decide) rfl (fun ls hl => ?_)
                        have LP93 : ∀ (k93 : Nat) (kb : Nat) (q93 : Nat → Int32) (ah93 : hA) (ls : Array Slot) (H93 : Heap) (L93 : List Loc), (RN (FG s9 + j) - kb < k93) → (moK dT ah ah93 mo AR q g q93 g) → (∀ x, x < kb → prB X Y RP RN (FG s9) sh9 pt9 pl i ka j x = none) → (fI i j ka ≤ kb) → (kb ≤ 10000) → lv_has ls 10 [(8, .int (nI (RP (FG s9 + j) + kb))), (7, .int (nI (FG s9 + j))), (6, .int (nI (RP (FG s9 + i) + ka))), (5, .int (nI (FG s9 + i))), (4, .int (nI (FG s9 + RC s9))), (3, .int pt9), (2, .int sh9), (1, .int (nI s9)), (0, .ref mo)] → hW D ah s.heap ah93 H93 L93 → W p l e R s m args below meth c H93 L93 (0 + 0 + 0) (0 + 0 + 0) Q (F0 m 93 ls []) := by
                          intro k93
                          induction k93 with
                          | zero => intro kb q93 ah93 ls H93 L93 hk; exact absurd hk (Nat.not_lt_zero _)
                          | succ k93 ih93 =>
                            intro kb q93 ah93 ls H93 L93 hk93 hJ93 hp93 hf93 hk93 hl hw
                            refine lv_iload hx hb dX10_pairsOf_93 (lv_at hl 0 rfl) ?_
                            refine lv_aload_n hx hb dX10_pairsOf_95 rfl (lv_at hl 8 rfl) ?_
                            refine lv_iload hx hb dX10_pairsOf_96 (lv_at hl 1 rfl) ?_
                            refine h_callV (n := 1) (ci := 10) (b := mo) (As := [.int (nI (FG s9 + j))]) (rest := [.int (nI (RP (FG s9 + j) + kb))]) ⟨hx, hb, hml, hown, hts⟩ hK hw (c_X10_end l D dT ah93 H93.size mo AR q93 g hJ93.1 np X Y hX nr RP RN hRg (FG s9 + j) (by omega)) ko_X10_end km_X10_129 ki_X10_end ks_X10_end kn_X10 (by decide +kernel) rfl hJ93.1.1 rfl hl.1 rfl (by simp [Value.category]) dX10_pairsOf_98 (by rw [hR]; exact ⟨rfl, rfl, Nat.le_of_ble_eq_true rfl, Nat.le_of_ble_eq_true rfl, by simp, by simp⟩) (fun r_23 ah_24 H_25 L_26 st_27 hp hw hst => ?_)
                            obtain ⟨rfl, rfl⟩ := hp
                            have hst : st_27 = [.int (nI (RP (FG s9 + j) + RN (FG s9 + j)) - 1), .int (nI (RP (FG s9 + j) + kb))] := hst
                            subst hst
                            refine lv_icmp_ge (tgt := 194) hx hb dX10_pairsOf_101 (by decide) (fun c_28 => ?_) (fun c_28 => ?_)
                            · skip
                              have c_28 : RP (FG s9 + j) + RN (FG s9 + j) ≤ RP (FG s9 + j) + kb + 1 := (nIm_le (by omega) (by omega)).mp c_28
                              refine lv_iinc (v := nI (FG s9 + j + 1)) (lv' := [(7, .int (nI (FG s9 + j + 1))), (8, .int (nI (RP (FG s9 + j) + kb))), (6, .int (nI (RP (FG s9 + i) + ka))), (5, .int (nI (FG s9 + i))), (4, .int (nI (FG s9 + RC s9))), (3, .int pt9), (2, .int sh9), (1, .int (nI s9)), (0, .ref mo)]) hx hb dX10_pairsOf_194 hl (k := 1) rfl (nI_c _ 1) (by decide) rfl (fun ls hl => ?_)
                              refine lv_goto (tgt := 54) hx hb dX10_pairsOf_197 (by decide) ?_
                              refine W.widen (k := 0 + 0) (n := 0 + 0) (by omega) (by omega) ?_
                              exact ih54 (j + 1) q93 ah93 ls _ _ (by omega) hJ93 (by omega) (by omega) (lt_o hp54 (prJ_n (fun x hx => hp93 x (by omega)))) (lv_sub hl [0, 2, 3, 4, 5, 6, 7, 8] rfl) hw
                            · skip
                              have c_28 : ¬ (RP (FG s9 + j) + RN (FG s9 + j) ≤ RP (FG s9 + j) + kb + 1) := (not_congr (nIm_le (by omega) (by omega))).mp c_28
                              refine lv_aload_n hx hb dX10_pairsOf_104 rfl (lv_at hl 8 rfl) ?_
                              refine lv_iload hx hb dX10_pairsOf_105 (lv_at hl 0 rfl) ?_
                              refine h_callV (n := 1) (ci := 10) (b := mo) (As := [.int (nI (RP (FG s9 + j) + kb))]) (rest := []) ⟨hx, hb, hml, hown, hts⟩ hK hw (c_X10_isSegment l D dT ah93 H_25.size mo AR q93 g hJ93.1 np X Y hX (RP (FG s9 + j) + kb) (by omega)) ko_X10_isSegment km_X10_132 ki_X10_isSegment ks_X10_isSegment kn_X10 (by decide +kernel) rfl hJ93.1.1 rfl hl.1 rfl (by simp [Value.category]) dX10_pairsOf_107 (by rw [hR]; exact ⟨rfl, rfl, Nat.le_of_ble_eq_true rfl, Nat.le_of_ble_eq_true rfl, by simp, by simp⟩) (fun r_30 ah_31 H_32 L_33 st_34 hp hw hst => ?_)
                              obtain ⟨rfl, rfl⟩ := hp
                              have hst : st_34 = [.int (bI (mSeg X Y (RP (FG s9 + j) + kb)))] := hst
                              subst hst
                              refine lv_if_eq (tgt := 128) hx hb dX10_pairsOf_110 (by decide) (fun c_35 => ?_) (fun c_35 => ?_)
                              · skip
                                have c_35 : mSeg X Y (RP (FG s9 + j) + kb) = false := bI_0.mp c_35
                                refine lv_iconst (v := 0) hx hb dX10_pairsOf_128 (by decide) ?_
                                refine lv_istore (lv' := [(9, .int 0), (8, .int (nI (RP (FG s9 + j) + kb))), (7, .int (nI (FG s9 + j))), (6, .int (nI (RP (FG s9 + i) + ka))), (5, .int (nI (FG s9 + i))), (4, .int (nI (FG s9 + RC s9))), (3, .int pt9), (2, .int sh9), (1, .int (nI s9)), (0, .ref mo)]) hx hb dX10_pairsOf_129 hl (by decide) rfl (fun ls hl => ?_)
                                refine lv_iload hx hb dX10_pairsOf_131 (lv_at hl 0 rfl) ?_
                                refine lv_if_le (tgt := 188) hx hb dX10_pairsOf_133 (by decide) (fun c_36 => ?_) (fun c_36 => ?_)
                                · skip
                                  refine lv_iinc (v := nI (RP (FG s9 + j) + kb + 1)) (lv' := [(8, .int (nI (RP (FG s9 + j) + kb + 1))), (9, .int 0), (7, .int (nI (FG s9 + j))), (6, .int (nI (RP (FG s9 + i) + ka))), (5, .int (nI (FG s9 + i))), (4, .int (nI (FG s9 + RC s9))), (3, .int pt9), (2, .int sh9), (1, .int (nI s9)), (0, .ref mo)]) hx hb dX10_pairsOf_188 hl (k := 1) rfl (nI_c _ 1) (by decide) rfl (fun ls hl => ?_)
                                  refine lv_goto (tgt := 93) hx hb dX10_pairsOf_191 (by decide) ?_
                                  refine W.widen (k := 0 + 0 + 0) (n := 0 + 0 + 0) (by omega) (by omega) ?_
                                  exact ih93 (kb + 1) q93 ah93 ls _ _ (by omega) hJ93 (lt_o hp93 (prB_g c_35)) (by omega) (by omega) (lv_sub hl [0, 2, 3, 4, 5, 6, 7, 8, 9] rfl) hw
                                · exact absurd c_36 (by decide)
                              · skip
                                have c_35 : ¬ (mSeg X Y (RP (FG s9 + j) + kb) = false) := (not_congr bI_0).mp c_35
                                refine lv_aload_n hx hb dX10_pairsOf_113 rfl (lv_at hl 8 rfl) ?_
                                refine lv_iload hx hb dX10_pairsOf_114 (lv_at hl 3 rfl) ?_
                                refine lv_iload hx hb dX10_pairsOf_116 (lv_at hl 2 rfl) ?_
                                refine lv_iload hx hb dX10_pairsOf_118 (lv_at hl 1 rfl) ?_
                                refine lv_iload hx hb dX10_pairsOf_120 (lv_at hl 0 rfl) ?_
                                refine h_callV (n := 4) (ci := 10) (b := mo) (As := [.int (nI (FG s9 + i)), .int (nI (RP (FG s9 + i) + ka)), .int (nI (FG s9 + j)), .int (nI (RP (FG s9 + j) + kb))]) (rest := []) ⟨hx, hb, hml, hown, hts⟩ hK hw (c_X10_pair l D dT ah93 H_32.size mo AR q93 g hJ93.1 np X Y hX nr RP RN hRg (FG s9 + i) (RP (FG s9 + i) + ka) (FG s9 + j) (RP (FG s9 + j) + kb) (by omega) (by omega) (by omega) (by omega) (by omega) (by omega)) ko_X10_pair km_X10_185 ki_X10_pair ks_X10_pair kn_X10 (by decide +kernel) rfl hJ93.1.1 rfl hl.1 rfl (by simp [Value.category]) dX10_pairsOf_122 (by rw [hR]; exact ⟨rfl, rfl, Nat.le_of_ble_eq_true rfl, Nat.le_of_ble_eq_true rfl, by simp, by simp⟩) (fun r_38 ah_39 H_40 L_41 st_42 hp hw hst => ?_)
                                rw [mPair_f] at hp
                                obtain ⟨q_43, rfl, eah_39, hlq_43⟩ := hp
                                have hJ_44 : moK dT ah ah_39 mo AR q g q_43 g := moK_q hJ93 eah_39 hlq_43
                                have hst : st_42 = [.int (mPr X Y RP RN (FG s9 + i) (RP (FG s9 + i) + ka) (FG s9 + j) (RP (FG s9 + j) + kb))] := hst
                                subst hst
                                refine lv_goto (tgt := 129) hx hb dX10_pairsOf_125 (by decide) ?_
                                refine lv_istore (lv' := [(9, .int (mPr X Y RP RN (FG s9 + i) (RP (FG s9 + i) + ka) (FG s9 + j) (RP (FG s9 + j) + kb))), (8, .int (nI (RP (FG s9 + j) + kb))), (7, .int (nI (FG s9 + j))), (6, .int (nI (RP (FG s9 + i) + ka))), (5, .int (nI (FG s9 + i))), (4, .int (nI (FG s9 + RC s9))), (3, .int pt9), (2, .int sh9), (1, .int (nI s9)), (0, .ref mo)]) hx hb dX10_pairsOf_129 hl (by decide) rfl (fun ls hl => ?_)
                                refine lv_iload hx hb dX10_pairsOf_131 (lv_at hl 0 rfl) ?_
                                refine lv_if_le (tgt := 188) hx hb dX10_pairsOf_133 (by decide) (fun c_45 => ?_) (fun c_45 => ?_)
                                · skip
                                  refine lv_iinc (v := nI (RP (FG s9 + j) + kb + 1)) (lv' := [(8, .int (nI (RP (FG s9 + j) + kb + 1))), (9, .int (mPr X Y RP RN (FG s9 + i) (RP (FG s9 + i) + ka) (FG s9 + j) (RP (FG s9 + j) + kb))), (7, .int (nI (FG s9 + j))), (6, .int (nI (RP (FG s9 + i) + ka))), (5, .int (nI (FG s9 + i))), (4, .int (nI (FG s9 + RC s9))), (3, .int pt9), (2, .int sh9), (1, .int (nI s9)), (0, .ref mo)]) hx hb dX10_pairsOf_188 hl (k := 1) rfl (nI_c _ 1) (by decide) rfl (fun ls hl => ?_)
                                  refine lv_goto (tgt := 93) hx hb dX10_pairsOf_191 (by decide) ?_
                                  refine W.widen (k := 0 + 0 + 0) (n := 0 + 0 + 0) (by omega) (by omega) ?_
                                  exact ih93 (kb + 1) q_43 ah_39 ls _ _ (by omega) hJ_44 (lt_o hp93 (prB_n c_45)) (by omega) (by omega) (lv_sub hl [0, 2, 3, 4, 5, 6, 7, 8, 9] rfl) hw
                                · skip
                                  refine lv_aload_n hx hb dX10_pairsOf_136 rfl (lv_at hl 9 rfl) ?_
                                  refine lv_iload_n hx hb dX10_pairsOf_137 rfl (lv_at hl 6 rfl) ?_
                                  refine lv_iload hx hb dX10_pairsOf_138 (lv_at hl 2 rfl) ?_
                                  refine lv_aload_n hx hb dX10_pairsOf_140 rfl (lv_at hl 9 rfl) ?_
                                  refine h_get (ci := 10) (v := .ref (AR 5)) (C := RX10) (T := TX10) (N := 26) hx hb hts kl_X10 hown hK hw hJ_44.1.1 rfl 10 (by decide) (hts _ kf_X10_25) rfl rfl dX10_pairsOf_141 ?_
                                  refine lv_iload_n hx hb dX10_pairsOf_144 rfl (lv_at hl 8 rfl) ?_
                                  refine h_iald hx hb hK hw (moA_a (n := 2048) (f := g 5) hJ_44.1 5 (by decide) rfl rfl) s9 rfl (by omega) (by omega) dX10_pairsOf_145 ?_
                                  rw [show (g 5) s9 = nI (FG s9) from (hS.2 _ (by omega)).2.2.2.2.2.1]
                                  refine lv_isub hx hb dX10_pairsOf_146 ?_
                                  refine lv_topi (fun t_47 et_47 => ?_)
                                  obtain rfl : t_47 = nI j := et_47.trans (nI_subl _ _)
                                  refine lv_iload hx hb dX10_pairsOf_147 (lv_at hl 1 rfl) ?_
                                  refine lv_aload_n hx hb dX10_pairsOf_149 rfl (lv_at hl 9 rfl) ?_
                                  refine h_get (ci := 10) (v := .ref (AR 7)) (C := RX10) (T := TX10) (N := 26) hx hb hts kl_X10 hown hK hw hJ_44.1.1 rfl 12 (by decide) (hts _ kf_X10_31) rfl rfl dX10_pairsOf_150 ?_
                                  refine lv_iload hx hb dX10_pairsOf_153 (lv_at hl 2 rfl) ?_
                                  refine h_iald hx hb hK hw (moA_a (n := 4096) (f := g 7) hJ_44.1 7 (by decide) rfl rfl) (FG s9 + j) rfl (by omega) (by omega) dX10_pairsOf_155 ?_
                                  rw [show (g 7) (FG s9 + j) = nI (RP (FG s9 + j)) from (hRg.2 _ (by omega)).1]
                                  refine lv_isub hx hb dX10_pairsOf_156 ?_
                                  refine lv_topi (fun t_48 et_48 => ?_)
                                  obtain rfl : t_48 = nI kb := et_48.trans (nI_subl _ _)
                                  refine h_callV (n := 3) (ci := 10) (b := mo) (As := [.int pt9, .int (nI j), .int (nI kb)]) (rest := []) ⟨hx, hb, hml, hown, hts⟩ hK hw (c_X10_other l D dT ah_39 H_40.size mo AR q_43 g hJ_44.1 pl hpl pt9 (nI j) (nI kb)) ko_X10_other km_X10_188 ki_X10_other ks_X10_other kn_X10 (by decide +kernel) rfl hJ_44.1.1 rfl hl.1 rfl (by simp [Value.category]) dX10_pairsOf_157 (by rw [hR]; exact ⟨rfl, rfl, Nat.le_of_ble_eq_true rfl, Nat.le_of_ble_eq_true rfl, by simp, by simp⟩) (fun r_49 ah_50 H_51 L_52 st_53 hp hw hst => ?_)
                                  obtain ⟨rfl, eah_50⟩ := hp
                                  have hJ_55 : moK dT ah ah_50 mo AR q g q_43 (va_up g 12 (p2 pl pt9 (nI j) (nI kb))) := moK_g hJ_44 12 (by decide) eah_50
                                  have hst : st_53 = [] := hst
                                  subst hst
                                  refine lv_aload_n hx hb dX10_pairsOf_160 rfl (lv_at hl 9 rfl) ?_
                                  refine lv_iload hx hb dX10_pairsOf_161 (lv_at hl 0 rfl) ?_
                                  refine lv_iload_n hx hb dX10_pairsOf_163 rfl (lv_at hl 7 rfl) ?_
                                  refine lv_iload_n hx hb dX10_pairsOf_164 rfl (lv_at hl 6 rfl) ?_
                                  refine lv_iload hx hb dX10_pairsOf_165 (lv_at hl 4 rfl) ?_
                                  refine lv_aload_n hx hb dX10_pairsOf_167 rfl (lv_at hl 9 rfl) ?_
                                  refine h_get (ci := 10) (v := .ref (AR 5)) (C := RX10) (T := TX10) (N := 26) hx hb hts kl_X10 hown hK hw hJ_55.1.1 rfl 10 (by decide) (hts _ kf_X10_25) rfl rfl dX10_pairsOf_168 ?_
                                  refine lv_iload_n hx hb dX10_pairsOf_171 rfl (lv_at hl 8 rfl) ?_
                                  refine h_iald hx hb hK hw (moA_a (n := 2048) (f := g 5) hJ_55.1 5 (by decide) rfl rfl) s9 rfl (by omega) (by omega) dX10_pairsOf_172 ?_
                                  rw [show (g 5) s9 = nI (FG s9) from (hS.2 _ (by omega)).2.2.2.2.2.1]
                                  refine lv_isub hx hb dX10_pairsOf_173 ?_
                                  refine lv_topi (fun t_56 et_56 => ?_)
                                  obtain rfl : t_56 = nI i := et_56.trans (nI_subl _ _)
                                  refine lv_iload hx hb dX10_pairsOf_174 (lv_at hl 3 rfl) ?_
                                  refine lv_aload_n hx hb dX10_pairsOf_176 rfl (lv_at hl 9 rfl) ?_
                                  refine h_get (ci := 10) (v := .ref (AR 7)) (C := RX10) (T := TX10) (N := 26) hx hb hts kl_X10 hown hK hw hJ_55.1.1 rfl 12 (by decide) (hts _ kf_X10_31) rfl rfl dX10_pairsOf_177 ?_
                                  refine lv_iload hx hb dX10_pairsOf_180 (lv_at hl 4 rfl) ?_
                                  refine h_iald hx hb hK hw (moA_a (n := 4096) (f := g 7) hJ_55.1 7 (by decide) rfl rfl) (FG s9 + i) rfl (by omega) (by omega) dX10_pairsOf_182 ?_
                                  rw [show (g 7) (FG s9 + i) = nI (RP (FG s9 + i)) from (hRg.2 _ (by omega)).1]
                                  refine lv_isub hx hb dX10_pairsOf_183 ?_
                                  refine lv_topi (fun t_57 et_57 => ?_)
                                  obtain rfl : t_57 = nI ka := et_57.trans (nI_subl _ _)
                                  refine h_callV (n := 5) (ci := 10) (b := mo) (As := [.int (mPr X Y RP RN (FG s9 + i) (RP (FG s9 + i) + ka) (FG s9 + j) (RP (FG s9 + j) + kb)), .int sh9, .int pt9, .int (nI i), .int (nI ka)]) (rest := []) ⟨hx, hb, hml, hown, hts⟩ hK hw (c_X10_told l D dT ah_50 H_51.size mo AR q_43 (va_up g 12 (p2 pl pt9 (nI j) (nI kb))) hJ_55.1 (p2 pl pt9 (nI j) (nI kb)) rfl (mPr X Y RP RN (FG s9 + i) (RP (FG s9 + i) + ka) (FG s9 + j) (RP (FG s9 + j) + kb)) sh9 pt9 (nI i) (nI ka)) ko_X10_told km_X10_178 ki_X10_told ks_X10_told kn_X10 (by decide +kernel) rfl hJ_55.1.1 rfl hl.1 rfl (by simp [Value.category]) dX10_pairsOf_184 (by rw [hR]; exact ⟨rfl, rfl, Nat.le_of_ble_eq_true rfl, Nat.le_of_ble_eq_true rfl, by simp, by simp⟩) (fun r_58 ah_59 H_60 L_61 st_62 hp hw hst => ?_)
                                  obtain ⟨rfl, eah_59⟩ := hp
                                  have hJ_64 : moK dT ah ah_59 mo AR q g q_43 (va_up (va_up g 12 (p2 pl pt9 (nI j) (nI kb))) 12 (p1 (upd (p2 pl pt9 (nI j) (nI kb)) 0 sh9) pt9 (nI i) (nI ka))) := moK_g hJ_55 12 (by decide) eah_59
                                  have hst : st_62 = [.int (mPr X Y RP RN (FG s9 + i) (RP (FG s9 + i) + ka) (FG s9 + j) (RP (FG s9 + j) + kb))] := hst
                                  subst hst
                                  rw [hQ]
                                  exact h_iret hx hb hr hlk hsz hw (by simp) (by simp) dX10_pairsOf_187 ⟨_, q_43, (va_up (va_up g 12 (p2 pl pt9 (nI j) (nI kb))) 12 (p1 (upd (p2 pl pt9 (nI j) (nI kb)) 0 sh9) pt9 (nI i) (nI ka))), rfl, hJ_64, (by rw [show firstO (RC s9) (prI X Y RP RN (FG s9) sh9 pt9 pl (RC s9)) = some (mPr X Y RP RN (FG s9 + i) (RP (FG s9 + i) + ka) (FG s9 + j) (RP (FG s9 + j) + kb), p2 (p1 (upd pl 0 sh9) pt9 (nI i) (nI ka)) pt9 (nI j) (nI kb)) from firstO_some (i := i) (by omega) (firstO_some (i := ka) (by omega) (prA_y hsa (firstO_some (i := j) (by omega) (prJ_y hj54 (firstO_some (i := kb) (by omega) (prB_s hf93 c_35 c_45) hp93)) hp54)) hp39) hp23]; exact ⟨rfl, (Int32.not_le.mp c_45), pp_c⟩)⟩
                        exact LP93 ((RN (FG s9 + j) - (fI i j ka)) + 1) (fI i j ka) q54 ah54 ls _ _ (Nat.lt_succ_self _) hJ54 (fun x hx => if_pos hx) (Nat.le_refl _) (by have := fI_le i j ka; omega) (lv_sub hl [0, 1, 2, 3, 4, 5, 6, 7, 8] rfl) hw
                      refine lv_icmp_ne (tgt := 84) hx hb dX10_pairsOf_74 (by decide) (fun c_19 => ?_) (fun c_19 => ?_)
                      · skip
                        have c_19 : ¬ (FG s9 + j = FG s9 + i) := (not_congr (nI_eqx (by rfl) (by rfl) (by omega) (by omega))).mp c_19
                        refine lv_aload_n hx hb dX10_pairsOf_84 rfl (lv_at hl 7 rfl) ?_
                        refine h_get (ci := 10) (v := .ref (AR 7)) (C := RX10) (T := TX10) (N := 26) hx hb hts kl_X10 hown hK hw hJ54.1.1 rfl 12 (by decide) (hts _ kf_X10_31) rfl rfl dX10_pairsOf_85 ?_
                        refine lv_iload hx hb dX10_pairsOf_88 (lv_at hl 0 rfl) ?_
                        refine h_iald hx hb hK hw (moA_a (n := 4096) (f := g 7) hJ54.1 7 (by decide) rfl rfl) (FG s9 + j) rfl (by omega) (by omega) dX10_pairsOf_90 ?_
                        rw [show (g 7) (FG s9 + j) = nI (RP (FG s9 + j)) from (hRg.2 _ (by omega)).1]
                        exact J_22 (nI (RP (FG s9 + j))) ls (lv_sub hl [0, 1, 2, 3, 4, 5, 6, 7] rfl) (by rw [if_neg c_19])
                      · skip
                        have c_19 : FG s9 + j = FG s9 + i := (nI_eqx (by rfl) (by rfl) (by omega) (by omega)).mp c_19
                        refine lv_iload hx hb dX10_pairsOf_77 (lv_at hl 1 rfl) ?_
                        refine lv_iconst (v := 1) hx hb dX10_pairsOf_79 (by decide) ?_
                        refine lv_iadd hx hb dX10_pairsOf_80 ?_
                        refine lv_topi (fun t_20 et_20 => ?_)
                        obtain rfl : t_20 = nI (RP (FG s9 + i) + ka + 1) := et_20.trans (nI_c _ 1)
                        refine lv_goto (tgt := 91) hx hb dX10_pairsOf_81 (by decide) ?_
                        exact J_22 (nI (RP (FG s9 + i) + ka + 1)) ls (lv_sub hl [0, 1, 2, 3, 4, 5, 6, 7] rfl) (by rw [if_pos c_19])
              exact LP54 ((RC s9 - i) + 1) i q39 ah39 ls _ _ (Nat.lt_succ_self _) hJ39 (by omega) (by omega) (fun x hx => if_pos hx) (lv_sub hl [0, 1, 2, 3, 4, 5, 6, 7] rfl) hw
        exact LP39 ((RN (FG s9 + i) - 0) + 1) 0 q23 ah23 ls _ _ (Nat.lt_succ_self _) hJ23 (by omega) (fun j hj => absurd hj (Nat.not_lt_zero _)) (lv_sub hl [0, 1, 2, 3, 4, 5, 6] rfl) hw
  exact LP23 ((RC s9 - 0) + 1) 0 q ah ls _ _ (Nat.lt_succ_self _) hJ0 (by omega) (fun j hj => absurd hj (Nat.not_lt_zero _)) (lv_sub hl [0, 1, 5, 4, 3, 2] rfl) hw

set_option maxHeartbeats 4000000 in
set_option maxRecDepth 100000 in
theorem c_X10_joins (l : Launch) (D : va_G) (dT : Nat → ClassId) (ah : hA) (sz : Nat) (mo : Nat) (AR : Nat → Nat) (q : Nat → Int32) (g : Nat → Nat → Int32) (hm : moA dT ah mo AR q g) (np : Nat) (X Y : Nat → Int32) (hX : moX np g X Y) (nr : Nat) (RP RN : Nat → Nat) (hRg : moR np nr g RP RN) (ns : Nat) (FG RC PF PC : Nat → Nat) (KD WH PA : Nat → Int32) (hS : moS ns np nr g FG RC PF PC KD WH PA) (G0 : Nat → Int32) (hG : g 13 = G0) (s9 p9 : Nat) (hs9 : s9 < ns) (hp9 : p9 < np) : hMet l yX10_joins cX10_joins 8 (some .boolean) ({ frames := 4, cells := 0, slots := 0, locals := 93 }) D dT [.ref mo, .int (nI s9), .int (nI p9)] ah sz (fun r ah2 => r = some (.int (bI (mjS (fun k9 => mOnR X Y RP RN (X p9) (Y p9) (FG s9 + k9)) (RC s9) G0 (RC s9)).2.1)) ∧ ah2 = hup ah (AR 13) (.inl (dT 0, 4096, .inl (mjS (fun k9 => mOnR X Y RP RN (X p9) (Y p9) (FG s9 + k9)) (RC s9) G0 (RC s9)).2.2))) 0 0 := by
  refine h_met (by decide) (Nat.le_of_ble_eq_true rfl) ?_
  intro p e s m below meth c ls R Q args hav hR hQ hB hl hsz hw
  obtain ⟨hx, hb, hml, hr, hts, hown, hlk, hin, hK⟩ := hB
  have hown : s.vm.findClass RX10 = some m.cls := hown
  have hl : lv_has ls 8 [(0, .ref mo), (1, .int (nI s9)), (2, .int (nI p9))] := hl
  have hnp := hX.1
  have hnr := hRg.1
  have hns9 := hS.1
  have hFR := (hS.2 s9 hs9).2.2.2.2.2.2.2.2
  refine lv_iconst (v := (-1)) hx hb dX10_joins_0 (by decide) ?_
  refine lv_istore_n (lv' := [(3, .int (-1)), (0, .ref mo), (1, .int (nI s9)), (2, .int (nI p9))]) hx hb dX10_joins_1 rfl hl (by decide) rfl (fun ls hl => ?_)
  refine lv_iconst (v := 0) hx hb dX10_joins_2 (by decide) ?_
  refine lv_istore (lv' := [(4, .int 0), (3, .int (-1)), (0, .ref mo), (1, .int (nI s9)), (2, .int (nI p9))]) hx hb dX10_joins_3 hl (by decide) rfl (fun ls hl => ?_)
  refine lv_iconst (v := 0) hx hb dX10_joins_5 (by decide) ?_
  refine lv_istore (lv' := [(5, .int 0), (4, .int 0), (3, .int (-1)), (0, .ref mo), (1, .int (nI s9)), (2, .int (nI p9))]) hx hb dX10_joins_6 hl (by decide) rfl (fun ls hl => ?_)
  have LP8 : ∀ (k8 : Nat) (k : Nat) (ah8 : hA) (ls : Array Slot) (H8 : Heap) (L8 : List Loc), (RC s9 - k < k8) → (k ≤ RC s9) → (ah8 = hup ah (AR 13) (.inl (dT 0, 4096, .inl ((mjS (fun k9 => mOnR X Y RP RN (X p9) (Y p9) (FG s9 + k9)) (RC s9) G0 k).2.2)))) → lv_has ls 8 [(5, .int (nI k)), (4, .int (bI ((mjS (fun k9 => mOnR X Y RP RN (X p9) (Y p9) (FG s9 + k9)) (RC s9) G0 k).2.1))), (3, .int (onI (mjS (fun k9 => mOnR X Y RP RN (X p9) (Y p9) (FG s9 + k9)) (RC s9) G0 k).1)), (2, .int (nI p9)), (1, .int (nI s9)), (0, .ref mo)] → hW D ah s.heap ah8 H8 L8 → W p l e R s m args below meth c H8 L8 (0) (0) Q (F0 m 8 ls []) := by
    intro k8
    induction k8 with
    | zero => intro k ah8 ls H8 L8 hk; exact absurd hk (Nat.not_lt_zero _)
    | succ k8 ih8 =>
      intro k ah8 ls H8 L8 hk8 hk8 he8 hl hw
      have hm8 : moA dT ah8 mo AR q (va_up g 13 ((mjS (fun k9 => mOnR X Y RP RN (X p9) (Y p9) (FG s9 + k9)) (RC s9) G0 k).2.2)) := moA_g hm 13 (by decide) he8
      refine lv_iload hx hb dX10_joins_8 (lv_at hl 0 rfl) ?_
      refine lv_aload_n hx hb dX10_joins_10 rfl (lv_at hl 5 rfl) ?_
      refine h_get (ci := 10) (v := .ref (AR 6)) (C := RX10) (T := TX10) (N := 26) hx hb hts kl_X10 hown hK hw hm8.1 rfl 11 (by decide) (hts _ kf_X10_28) rfl rfl dX10_joins_11 ?_
      refine lv_iload_n hx hb dX10_joins_14 rfl (lv_at hl 4 rfl) ?_
      refine h_iald hx hb hK hw (moA_a (n := 2048) (f := g 6) hm8 6 (by decide) rfl rfl) s9 rfl (by omega) (by omega) dX10_joins_15 ?_
      rw [show (g 6) s9 = nI (RC s9) from (hS.2 _ (by omega)).2.2.2.2.2.2.1]
      refine lv_icmp_ge (tgt := 155) hx hb dX10_joins_16 (by decide) (fun c_1 => ?_) (fun c_1 => ?_)
      · skip
        have c_1 : RC s9 ≤ k := (nI_lex (by rfl) (by rfl) (by omega) (by omega)).mp c_1
        refine lv_iload hx hb dX10_joins_155 (lv_at hl 1 rfl) ?_
        rw [hQ]
        exact h_zret hx hb hr hlk hsz hw (by simp) (by simp) dX10_joins_157 (bI_01 _) ⟨by rw [show k = RC s9 by omega], by have hk9 : k = RC s9 := (by omega); exact he8.trans (congrArg (fun z => hup ah (AR 13) (.inl (dT 0, 4096, .inl (mjS (fun k9 => mOnR X Y RP RN (X p9) (Y p9) (FG s9 + k9)) (RC s9) G0 z).2.2))) hk9)⟩
      · skip
        have c_1 : ¬ (RC s9 ≤ k) := (not_congr (nI_lex (by rfl) (by rfl) (by omega) (by omega))).mp c_1
        refine lv_aload_n hx hb dX10_joins_19 rfl (lv_at hl 5 rfl) ?_
        refine lv_aload_n hx hb dX10_joins_20 rfl (lv_at hl 5 rfl) ?_
        refine h_get (ci := 10) (v := .ref (AR 9)) (C := RX10) (T := TX10) (N := 26) hx hb hts kl_X10 hown hK hw hm8.1 rfl 14 (by decide) (hts _ kf_X10_37) rfl rfl dX10_joins_21 ?_
        refine lv_iload_n hx hb dX10_joins_24 rfl (lv_at hl 3 rfl) ?_
        refine h_iald hx hb hK hw (moA_a (n := 4096) (f := g 9) hm8 9 (by decide) rfl rfl) p9 rfl (by omega) (by omega) dX10_joins_25 ?_
        rw [show (g 9) p9 = X p9 from (hX.2 _ (by omega)).1]
        refine lv_aload_n hx hb dX10_joins_26 rfl (lv_at hl 5 rfl) ?_
        refine h_get (ci := 10) (v := .ref (AR 10)) (C := RX10) (T := TX10) (N := 26) hx hb hts kl_X10 hown hK hw hm8.1 rfl 15 (by decide) (hts _ kf_X10_40) rfl rfl dX10_joins_27 ?_
        refine lv_iload_n hx hb dX10_joins_30 rfl (lv_at hl 3 rfl) ?_
        refine h_iald hx hb hK hw (moA_a (n := 4096) (f := g 10) hm8 10 (by decide) rfl rfl) p9 rfl (by omega) (by omega) dX10_joins_31 ?_
        rw [show (g 10) p9 = Y p9 from (hX.2 _ (by omega)).2]
        refine lv_aload_n hx hb dX10_joins_32 rfl (lv_at hl 5 rfl) ?_
        refine h_get (ci := 10) (v := .ref (AR 5)) (C := RX10) (T := TX10) (N := 26) hx hb hts kl_X10 hown hK hw hm8.1 rfl 10 (by decide) (hts _ kf_X10_25) rfl rfl dX10_joins_33 ?_
        refine lv_iload_n hx hb dX10_joins_36 rfl (lv_at hl 4 rfl) ?_
        refine h_iald hx hb hK hw (moA_a (n := 2048) (f := g 5) hm8 5 (by decide) rfl rfl) s9 rfl (by omega) (by omega) dX10_joins_37 ?_
        rw [show (g 5) s9 = nI (FG s9) from (hS.2 _ (by omega)).2.2.2.2.2.1]
        refine lv_iload hx hb dX10_joins_38 (lv_at hl 0 rfl) ?_
        refine lv_iadd hx hb dX10_joins_40 ?_
        refine lv_topi (fun t_2 et_2 => ?_)
        obtain rfl : t_2 = nI (FG s9 + k) := et_2.trans (nI_add _ _)
        refine h_callV (n := 3) (ci := 10) (b := mo) (As := [.int (X p9), .int (Y p9), .int (nI (FG s9 + k))]) (rest := []) ⟨hx, hb, hml, hown, hts⟩ hK hw (c_X10_isOnRing l D dT ah8 H8.size mo AR q (va_up g 13 ((mjS (fun k9 => mOnR X Y RP RN (X p9) (Y p9) (FG s9 + k9)) (RC s9) G0 k).2.2)) hm8 np X Y hX nr RP RN hRg (X p9) (Y p9) (FG s9 + k) (by omega)) ko_X10_isOnRing km_X10_135 ki_X10_isOnRing ks_X10_isOnRing kn_X10 (by decide +kernel) rfl hm8.1 rfl hl.1 rfl (by simp [Value.category]) dX10_joins_41 (by rw [hR]; exact ⟨rfl, rfl, Nat.le_of_ble_eq_true rfl, Nat.le_of_ble_eq_true rfl, by simp, by simp⟩) (fun r_3 ah_4 H_5 L_6 st_7 hp hw hst => ?_)
        obtain ⟨rfl, rfl⟩ := hp
        have hst : st_7 = [.int (bI (mOnR X Y RP RN (X p9) (Y p9) (FG s9 + k)))] := hst
        subst hst
        refine lv_if_eq (tgt := 149) hx hb dX10_joins_44 (by decide) (fun c_8 => ?_) (fun c_8 => ?_)
        · skip
          have c_8 : mOnR X Y RP RN (X p9) (Y p9) (FG s9 + k) = false := bI_0.mp c_8
          have h41 : bI (mjS (fun k9 => mOnR X Y RP RN (X p9) (Y p9) (FG s9 + k9)) (RC s9) G0 (k + 1)).2.1 = bI ((mjS (fun k9 => mOnR X Y RP RN (X p9) (Y p9) (FG s9 + k9)) (RC s9) G0 k).2.1) := (congrArg (fun z => bI z.2.1) (mjS_f (P := fun k9 => mOnR X Y RP RN (X p9) (Y p9) (FG s9 + k9)) (k := k) c_8))
          have h31 : onI (mjS (fun k9 => mOnR X Y RP RN (X p9) (Y p9) (FG s9 + k9)) (RC s9) G0 (k + 1)).1 = onI (mjS (fun k9 => mOnR X Y RP RN (X p9) (Y p9) (FG s9 + k9)) (RC s9) G0 k).1 := congrArg (fun z => onI z.1) (mjS_f (P := fun k9 => mOnR X Y RP RN (X p9) (Y p9) (FG s9 + k9)) (k := k) c_8)
          have hl : lv_has ls 8 [(5, .int (nI k)), (4, .int (bI ((mjS (fun k9 => mOnR X Y RP RN (X p9) (Y p9) (FG s9 + k9)) (RC s9) G0 (k + 1)).2.1))), (3, .int (onI (mjS (fun k9 => mOnR X Y RP RN (X p9) (Y p9) (FG s9 + k9)) (RC s9) G0 (k + 1)).1)), (2, .int (nI p9)), (1, .int (nI s9)), (0, .ref mo)] := by rw [h41, h31]; exact hl
          refine lv_iinc (v := nI (k + 1)) (lv' := [(5, .int (nI (k + 1))), (4, .int (bI ((mjS (fun k9 => mOnR X Y RP RN (X p9) (Y p9) (FG s9 + k9)) (RC s9) G0 (k + 1)).2.1))), (3, .int (onI (mjS (fun k9 => mOnR X Y RP RN (X p9) (Y p9) (FG s9 + k9)) (RC s9) G0 (k + 1)).1)), (2, .int (nI p9)), (1, .int (nI s9)), (0, .ref mo)]) hx hb dX10_joins_149 hl (k := 0) rfl (nI_c _ 1) (by decide) rfl (fun ls hl => ?_)
          refine lv_goto (tgt := 8) hx hb dX10_joins_152 (by decide) ?_
          refine W.widen (k := 0) (n := 0) (by omega) (by omega) ?_
          exact ih8 (k + 1) ah8 ls _ _ (by omega) (by omega) (by rw [(mjS_f (P := fun k9 => mOnR X Y RP RN (X p9) (Y p9) (FG s9 + k9)) (k := k) c_8)]; exact he8) (lv_sub hl [0, 1, 2, 3, 4, 5] rfl) hw
        · skip
          have c_8 : ¬ (mOnR X Y RP RN (X p9) (Y p9) (FG s9 + k) = false) := (not_congr bI_0).mp c_8
          rcases ho9 : (mjS (fun k9 => mOnR X Y RP RN (X p9) (Y p9) (FG s9 + k9)) (RC s9) G0 k).1 with _ | o9
          · skip
            have hP9 := c_8
            rw [show onI (mjS (fun k9 => mOnR X Y RP RN (X p9) (Y p9) (FG s9 + k9)) (RC s9) G0 k).1 = -1 from by rw [ho9]; rfl] at hl
            refine lv_iload_n hx hb dX10_joins_47 rfl (lv_at hl 2 rfl) ?_
            refine lv_if_lt (tgt := 70) hx hb dX10_joins_48 (by decide) (fun c_10 => ?_) (fun c_10 => ?_)
            · skip
              refine lv_aload_n hx hb dX10_joins_70 rfl (lv_at hl 5 rfl) ?_
              refine h_get (ci := 10) (v := .ref (AR 13)) (C := RX10) (T := TX10) (N := 26) hx hb hts kl_X10 hown hK hw hm8.1 rfl 21 (by decide) (hts _ kf_X10_49) rfl rfl dX10_joins_71 ?_
              refine lv_iload hx hb dX10_joins_74 (lv_at hl 0 rfl) ?_
              refine h_iald hx hb hK hw (moA_a (n := 4096) (f := (mjS (fun k9 => mOnR X Y RP RN (X p9) (Y p9) (FG s9 + k9)) (RC s9) G0 k).2.2) hm8 13 (by decide) rfl rfl) k rfl (by omega) (by omega) dX10_joins_76 ?_
              refine lv_istore (lv' := [(6, .int (((mjS (fun k9 => mOnR X Y RP RN (X p9) (Y p9) (FG s9 + k9)) (RC s9) G0 k).2.2) k)), (5, .int (nI k)), (4, .int (bI ((mjS (fun k9 => mOnR X Y RP RN (X p9) (Y p9) (FG s9 + k9)) (RC s9) G0 k).2.1))), (3, .int (-1)), (2, .int (nI p9)), (1, .int (nI s9)), (0, .ref mo)]) hx hb dX10_joins_77 hl (by decide) rfl (fun ls hl => ?_)
              refine lv_iconst (v := 0) hx hb dX10_joins_79 (by decide) ?_
              refine lv_istore (lv' := [(7, .int 0), (6, .int (((mjS (fun k9 => mOnR X Y RP RN (X p9) (Y p9) (FG s9 + k9)) (RC s9) G0 k).2.2) k)), (5, .int (nI k)), (4, .int (bI ((mjS (fun k9 => mOnR X Y RP RN (X p9) (Y p9) (FG s9 + k9)) (RC s9) G0 k).2.1))), (3, .int (-1)), (2, .int (nI p9)), (1, .int (nI s9)), (0, .ref mo)]) hx hb dX10_joins_80 hl (by decide) rfl (fun ls hl => ?_)
              refine lv_iload hx hb dX10_joins_82 (lv_at hl 0 rfl) ?_
              refine lv_aload_n hx hb dX10_joins_84 rfl (lv_at hl 7 rfl) ?_
              refine h_get (ci := 10) (v := .ref (AR 6)) (C := RX10) (T := TX10) (N := 26) hx hb hts kl_X10 hown hK hw hm8.1 rfl 11 (by decide) (hts _ kf_X10_28) rfl rfl dX10_joins_85 ?_
              refine lv_iload_n hx hb dX10_joins_88 rfl (lv_at hl 6 rfl) ?_
              refine h_iald hx hb hK hw (moA_a (n := 2048) (f := g 6) hm8 6 (by decide) rfl rfl) s9 rfl (by omega) (by omega) dX10_joins_89 ?_
              rw [show (g 6) s9 = nI (RC s9) from (hS.2 _ (by omega)).2.2.2.2.2.2.1]
              refine lv_icmp_ge (tgt := 138) hx hb dX10_joins_90 (by decide) (fun c_11 => ?_) (fun c_11 => ?_)
              · skip
                have c_11 : RC s9 ≤ 0 := (nI_lex (by rfl) (by decide) (by omega) (by omega)).mp c_11
                refine lv_iload_n hx hb dX10_joins_138 rfl (lv_at hl 4 rfl) ?_
                refine lv_if_ge (tgt := 147) hx hb dX10_joins_139 (by decide) (fun c_12 => ?_) (fun c_12 => ?_)
                · exact absurd c_12 (by decide)
                · skip
                  refine lv_iload hx hb dX10_joins_142 (lv_at hl 2 rfl) ?_
                  refine lv_goto (tgt := 148) hx hb dX10_joins_144 (by decide) ?_
                  refine lv_istore_n (lv' := [(3, .int (nI k)), (7, .int 0), (6, .int (((mjS (fun k9 => mOnR X Y RP RN (X p9) (Y p9) (FG s9 + k9)) (RC s9) G0 k).2.2) k)), (5, .int (nI k)), (4, .int (bI ((mjS (fun k9 => mOnR X Y RP RN (X p9) (Y p9) (FG s9 + k9)) (RC s9) G0 k).2.1))), (2, .int (nI p9)), (1, .int (nI s9)), (0, .ref mo)]) hx hb dX10_joins_148 rfl hl (by decide) rfl (fun ls hl => ?_)
                  have h41 : bI (mjS (fun k9 => mOnR X Y RP RN (X p9) (Y p9) (FG s9 + k9)) (RC s9) G0 (k + 1)).2.1 = bI ((mjS (fun k9 => mOnR X Y RP RN (X p9) (Y p9) (FG s9 + k9)) (RC s9) G0 k).2.1) := (congrArg (fun z => bI z.2.1) (mjS_1 (P := fun k9 => mOnR X Y RP RN (X p9) (Y p9) (FG s9 + k9)) (k := k) hP9 ho9))
                  have h31 : onI (mjS (fun k9 => mOnR X Y RP RN (X p9) (Y p9) (FG s9 + k9)) (RC s9) G0 (k + 1)).1 = nI k := congrArg (fun z => onI z.1) (mjS_1 (P := fun k9 => mOnR X Y RP RN (X p9) (Y p9) (FG s9 + k9)) (k := k) hP9 ho9)
                  have hl : lv_has ls 8 [(3, .int (onI (mjS (fun k9 => mOnR X Y RP RN (X p9) (Y p9) (FG s9 + k9)) (RC s9) G0 (k + 1)).1)), (7, .int 0), (6, .int (((mjS (fun k9 => mOnR X Y RP RN (X p9) (Y p9) (FG s9 + k9)) (RC s9) G0 k).2.2) k)), (5, .int (nI k)), (4, .int (bI ((mjS (fun k9 => mOnR X Y RP RN (X p9) (Y p9) (FG s9 + k9)) (RC s9) G0 (k + 1)).2.1))), (2, .int (nI p9)), (1, .int (nI s9)), (0, .ref mo)] := by rw [h41, h31]; exact hl
                  refine lv_iinc (v := nI (k + 1)) (lv' := [(5, .int (nI (k + 1))), (3, .int (onI (mjS (fun k9 => mOnR X Y RP RN (X p9) (Y p9) (FG s9 + k9)) (RC s9) G0 (k + 1)).1)), (7, .int 0), (6, .int (((mjS (fun k9 => mOnR X Y RP RN (X p9) (Y p9) (FG s9 + k9)) (RC s9) G0 k).2.2) k)), (4, .int (bI ((mjS (fun k9 => mOnR X Y RP RN (X p9) (Y p9) (FG s9 + k9)) (RC s9) G0 (k + 1)).2.1))), (2, .int (nI p9)), (1, .int (nI s9)), (0, .ref mo)]) hx hb dX10_joins_149 hl (k := 3) rfl (nI_c _ 1) (by decide) rfl (fun ls hl => ?_)
                  refine lv_goto (tgt := 8) hx hb dX10_joins_152 (by decide) ?_
                  refine W.widen (k := 0) (n := 0) (by omega) (by omega) ?_
                  exact ih8 (k + 1) ah8 ls _ _ (by omega) (by omega) (by rw [(mjS_1 (P := fun k9 => mOnR X Y RP RN (X p9) (Y p9) (FG s9 + k9)) (k := k) hP9 ho9)]; exact he8) (lv_sub hl [0, 4, 1, 5, 6, 7] rfl) hw
              · skip
                have c_11 : ¬ (RC s9 ≤ 0) := (not_congr (nI_lex (by rfl) (by decide) (by omega) (by omega))).mp c_11
                refine lv_iload_n hx hb dX10_joins_93 rfl (lv_at hl 4 rfl) ?_
                refine lv_if_lt (tgt := 138) hx hb dX10_joins_94 (by decide) (fun c_14 => ?_) (fun c_14 => ?_)
                · skip
                  refine lv_iload_n hx hb dX10_joins_138 rfl (lv_at hl 4 rfl) ?_
                  refine lv_if_ge (tgt := 147) hx hb dX10_joins_139 (by decide) (fun c_15 => ?_) (fun c_15 => ?_)
                  · exact absurd c_15 (by decide)
                  · skip
                    refine lv_iload hx hb dX10_joins_142 (lv_at hl 2 rfl) ?_
                    refine lv_goto (tgt := 148) hx hb dX10_joins_144 (by decide) ?_
                    refine lv_istore_n (lv' := [(3, .int (nI k)), (7, .int 0), (6, .int (((mjS (fun k9 => mOnR X Y RP RN (X p9) (Y p9) (FG s9 + k9)) (RC s9) G0 k).2.2) k)), (5, .int (nI k)), (4, .int (bI ((mjS (fun k9 => mOnR X Y RP RN (X p9) (Y p9) (FG s9 + k9)) (RC s9) G0 k).2.1))), (2, .int (nI p9)), (1, .int (nI s9)), (0, .ref mo)]) hx hb dX10_joins_148 rfl hl (by decide) rfl (fun ls hl => ?_)
                    have h41 : bI (mjS (fun k9 => mOnR X Y RP RN (X p9) (Y p9) (FG s9 + k9)) (RC s9) G0 (k + 1)).2.1 = bI ((mjS (fun k9 => mOnR X Y RP RN (X p9) (Y p9) (FG s9 + k9)) (RC s9) G0 k).2.1) := (congrArg (fun z => bI z.2.1) (mjS_1 (P := fun k9 => mOnR X Y RP RN (X p9) (Y p9) (FG s9 + k9)) (k := k) hP9 ho9))
                    have h31 : onI (mjS (fun k9 => mOnR X Y RP RN (X p9) (Y p9) (FG s9 + k9)) (RC s9) G0 (k + 1)).1 = nI k := congrArg (fun z => onI z.1) (mjS_1 (P := fun k9 => mOnR X Y RP RN (X p9) (Y p9) (FG s9 + k9)) (k := k) hP9 ho9)
                    have hl : lv_has ls 8 [(3, .int (onI (mjS (fun k9 => mOnR X Y RP RN (X p9) (Y p9) (FG s9 + k9)) (RC s9) G0 (k + 1)).1)), (7, .int 0), (6, .int (((mjS (fun k9 => mOnR X Y RP RN (X p9) (Y p9) (FG s9 + k9)) (RC s9) G0 k).2.2) k)), (5, .int (nI k)), (4, .int (bI ((mjS (fun k9 => mOnR X Y RP RN (X p9) (Y p9) (FG s9 + k9)) (RC s9) G0 (k + 1)).2.1))), (2, .int (nI p9)), (1, .int (nI s9)), (0, .ref mo)] := by rw [h41, h31]; exact hl
                    refine lv_iinc (v := nI (k + 1)) (lv' := [(5, .int (nI (k + 1))), (3, .int (onI (mjS (fun k9 => mOnR X Y RP RN (X p9) (Y p9) (FG s9 + k9)) (RC s9) G0 (k + 1)).1)), (7, .int 0), (6, .int (((mjS (fun k9 => mOnR X Y RP RN (X p9) (Y p9) (FG s9 + k9)) (RC s9) G0 k).2.2) k)), (4, .int (bI ((mjS (fun k9 => mOnR X Y RP RN (X p9) (Y p9) (FG s9 + k9)) (RC s9) G0 (k + 1)).2.1))), (2, .int (nI p9)), (1, .int (nI s9)), (0, .ref mo)]) hx hb dX10_joins_149 hl (k := 3) rfl (nI_c _ 1) (by decide) rfl (fun ls hl => ?_)
                    refine lv_goto (tgt := 8) hx hb dX10_joins_152 (by decide) ?_
                    refine W.widen (k := 0) (n := 0) (by omega) (by omega) ?_
                    exact ih8 (k + 1) ah8 ls _ _ (by omega) (by omega) (by rw [(mjS_1 (P := fun k9 => mOnR X Y RP RN (X p9) (Y p9) (FG s9 + k9)) (k := k) hP9 ho9)]; exact he8) (lv_sub hl [0, 4, 1, 5, 6, 7] rfl) hw
                · exact absurd c_14 (by decide)
            · exact absurd c_10 (by decide)
          · skip
            have hP9 := c_8
            rw [show onI (mjS (fun k9 => mOnR X Y RP RN (X p9) (Y p9) (FG s9 + k9)) (RC s9) G0 k).1 = nI o9 from by rw [ho9]; rfl] at hl
            have hok := mjS_o (P := fun k9 => mOnR X Y RP RN (X p9) (Y p9) (FG s9 + k9)) ho9
            refine lv_iload_n hx hb dX10_joins_47 rfl (lv_at hl 2 rfl) ?_
            refine lv_if_lt (tgt := 70) hx hb dX10_joins_48 (by decide) (fun c_17 => ?_) (fun c_17 => ?_)
            · skip
              have c_17 : o9 < 0 := (nI_ltx (by rfl) (by decide) (by omega) (by omega)).mp c_17
              exfalso
              omega
            · skip
              have c_17 : ¬ (o9 < 0) := (not_congr (nI_ltx (by rfl) (by decide) (by omega) (by omega))).mp c_17
              refine lv_aload_n hx hb dX10_joins_51 rfl (lv_at hl 5 rfl) ?_
              refine h_get (ci := 10) (v := .ref (AR 13)) (C := RX10) (T := TX10) (N := 26) hx hb hts kl_X10 hown hK hw hm8.1 rfl 21 (by decide) (hts _ kf_X10_49) rfl rfl dX10_joins_52 ?_
              refine lv_iload hx hb dX10_joins_55 (lv_at hl 0 rfl) ?_
              refine h_iald hx hb hK hw (moA_a (n := 4096) (f := (mjS (fun k9 => mOnR X Y RP RN (X p9) (Y p9) (FG s9 + k9)) (RC s9) G0 k).2.2) hm8 13 (by decide) rfl rfl) k rfl (by omega) (by omega) dX10_joins_57 ?_
              refine lv_aload_n hx hb dX10_joins_58 rfl (lv_at hl 5 rfl) ?_
              refine h_get (ci := 10) (v := .ref (AR 13)) (C := RX10) (T := TX10) (N := 26) hx hb hts kl_X10 hown hK hw hm8.1 rfl 21 (by decide) (hts _ kf_X10_49) rfl rfl dX10_joins_59 ?_
              refine lv_iload_n hx hb dX10_joins_62 rfl (lv_at hl 2 rfl) ?_
              refine h_iald hx hb hK hw (moA_a (n := 4096) (f := (mjS (fun k9 => mOnR X Y RP RN (X p9) (Y p9) (FG s9 + k9)) (RC s9) G0 k).2.2) hm8 13 (by decide) rfl rfl) o9 rfl (by omega) (by omega) dX10_joins_63 ?_
              have J_20 : ∀ (v_19 : Int32) (ls : Array Slot), lv_has ls 8 [(5, .int (nI k)), (4, .int v_19), (3, .int (nI o9)), (2, .int (nI p9)), (1, .int (nI s9)), (0, .ref mo)] → v_19 = (if ((mjS (fun k9 => mOnR X Y RP RN (X p9) (Y p9) (FG s9 + k9)) (RC s9) G0 k).2.2) k = ((mjS (fun k9 => mOnR X Y RP RN (X p9) (Y p9) (FG s9 + k9)) (RC s9) G0 k).2.2) o9 then 1 else bI ((mjS (fun k9 => mOnR X Y RP RN (X p9) (Y p9) (FG s9 + k9)) (RC s9) G0 k).2.1)) → W p l e R s m args below meth c H_5 L_6 (0 + 0) (0 + 0) Q (F0 m 70 ls []) := by
                intro v_19 ls hl ev_19
                refine lv_aload_n hx hb dX10_joins_70 rfl (lv_at hl 5 rfl) ?_
                refine h_get (ci := 10) (v := .ref (AR 13)) (C := RX10) (T := TX10) (N := 26) hx hb hts kl_X10 hown hK hw hm8.1 rfl 21 (by decide) (hts _ kf_X10_49) rfl rfl dX10_joins_71 ?_
                refine lv_iload hx hb dX10_joins_74 (lv_at hl 0 rfl) ?_
                refine h_iald hx hb hK hw (moA_a (n := 4096) (f := (mjS (fun k9 => mOnR X Y RP RN (X p9) (Y p9) (FG s9 + k9)) (RC s9) G0 k).2.2) hm8 13 (by decide) rfl rfl) k rfl (by omega) (by omega) dX10_joins_76 ?_
                refine lv_istore (lv' := [(6, .int (((mjS (fun k9 => mOnR X Y RP RN (X p9) (Y p9) (FG s9 + k9)) (RC s9) G0 k).2.2) k)), (5, .int (nI k)), (4, .int v_19), (3, .int (nI o9)), (2, .int (nI p9)), (1, .int (nI s9)), (0, .ref mo)]) hx hb dX10_joins_77 hl (by decide) rfl (fun ls hl => ?_)
                refine lv_iconst (v := 0) hx hb dX10_joins_79 (by decide) ?_
                refine lv_istore (lv' := [(7, .int 0), (6, .int (((mjS (fun k9 => mOnR X Y RP RN (X p9) (Y p9) (FG s9 + k9)) (RC s9) G0 k).2.2) k)), (5, .int (nI k)), (4, .int v_19), (3, .int (nI o9)), (2, .int (nI p9)), (1, .int (nI s9)), (0, .ref mo)]) hx hb dX10_joins_80 hl (by decide) rfl (fun ls hl => ?_)
                have LP82 : ∀ (k82 : Nat) (j : Nat) (ah82 : hA) (ls : Array Slot) (H82 : Heap) (L82 : List Loc), (RC s9 - j < k82) → (j ≤ RC s9) → (ah82 = hup ah (AR 13) (.inl (dT 0, 4096, .inl (renF ((mjS (fun k9 => mOnR X Y RP RN (X p9) (Y p9) (FG s9 + k9)) (RC s9) G0 k).2.2) (((mjS (fun k9 => mOnR X Y RP RN (X p9) (Y p9) (FG s9 + k9)) (RC s9) G0 k).2.2) k) (((mjS (fun k9 => mOnR X Y RP RN (X p9) (Y p9) (FG s9 + k9)) (RC s9) G0 k).2.2) o9) j)))) → lv_has ls 8 [(7, .int (nI j)), (6, .int (((mjS (fun k9 => mOnR X Y RP RN (X p9) (Y p9) (FG s9 + k9)) (RC s9) G0 k).2.2) k)), (5, .int (nI k)), (4, .int v_19), (3, .int (nI o9)), (2, .int (nI p9)), (1, .int (nI s9)), (0, .ref mo)] → hW D ah s.heap ah82 H82 L82 → W p l e R s m args below meth c H82 L82 (0 + 0) (0 + 0) Q (F0 m 82 ls []) := by
                  intro k82
                  induction k82 with
                  | zero => intro j ah82 ls H82 L82 hk; exact absurd hk (Nat.not_lt_zero _)
                  | succ k82 ih82 =>
                    intro j ah82 ls H82 L82 hk82 hj82 he82 hl hw
                    have hm82 : moA dT ah82 mo AR q (va_up g 13 (renF ((mjS (fun k9 => mOnR X Y RP RN (X p9) (Y p9) (FG s9 + k9)) (RC s9) G0 k).2.2) (((mjS (fun k9 => mOnR X Y RP RN (X p9) (Y p9) (FG s9 + k9)) (RC s9) G0 k).2.2) k) (((mjS (fun k9 => mOnR X Y RP RN (X p9) (Y p9) (FG s9 + k9)) (RC s9) G0 k).2.2) o9) j)) := moA_g hm 13 (by decide) he82
                    refine lv_iload hx hb dX10_joins_82 (lv_at hl 0 rfl) ?_
                    refine lv_aload_n hx hb dX10_joins_84 rfl (lv_at hl 7 rfl) ?_
                    refine h_get (ci := 10) (v := .ref (AR 6)) (C := RX10) (T := TX10) (N := 26) hx hb hts kl_X10 hown hK hw hm82.1 rfl 11 (by decide) (hts _ kf_X10_28) rfl rfl dX10_joins_85 ?_
                    refine lv_iload_n hx hb dX10_joins_88 rfl (lv_at hl 6 rfl) ?_
                    refine h_iald hx hb hK hw (moA_a (n := 2048) (f := g 6) hm82 6 (by decide) rfl rfl) s9 rfl (by omega) (by omega) dX10_joins_89 ?_
                    rw [show (g 6) s9 = nI (RC s9) from (hS.2 _ (by omega)).2.2.2.2.2.2.1]
                    refine lv_icmp_ge (tgt := 138) hx hb dX10_joins_90 (by decide) (fun c_21 => ?_) (fun c_21 => ?_)
                    · skip
                      have c_21 : RC s9 ≤ j := (nI_lex (by rfl) (by rfl) (by omega) (by omega)).mp c_21
                      refine lv_iload_n hx hb dX10_joins_138 rfl (lv_at hl 4 rfl) ?_
                      refine lv_if_ge (tgt := 147) hx hb dX10_joins_139 (by decide) (fun c_22 => ?_) (fun c_22 => ?_)
                      · skip
                        have c_22 : 0 ≤ o9 := (nI_lex (by decide) (by rfl) (by omega) (by omega)).mp c_22
                        refine lv_iload_n hx hb dX10_joins_147 rfl (lv_at hl 4 rfl) ?_
                        refine lv_istore_n (lv' := [(3, .int (nI o9)), (7, .int (nI j)), (6, .int (((mjS (fun k9 => mOnR X Y RP RN (X p9) (Y p9) (FG s9 + k9)) (RC s9) G0 k).2.2) k)), (5, .int (nI k)), (4, .int v_19), (2, .int (nI p9)), (1, .int (nI s9)), (0, .ref mo)]) hx hb dX10_joins_148 rfl hl (by decide) rfl (fun ls hl => ?_)
                        have h41 : bI (mjS (fun k9 => mOnR X Y RP RN (X p9) (Y p9) (FG s9 + k9)) (RC s9) G0 (k + 1)).2.1 = v_19 := ((congrArg (fun z => bI z.2.1) (mjS_2 (P := fun k9 => mOnR X Y RP RN (X p9) (Y p9) (FG s9 + k9)) (k := k) hP9 ho9)).trans (bI_or.trans ev_19.symm))
                        have h31 : onI (mjS (fun k9 => mOnR X Y RP RN (X p9) (Y p9) (FG s9 + k9)) (RC s9) G0 (k + 1)).1 = nI o9 := congrArg (fun z => onI z.1) (mjS_2 (P := fun k9 => mOnR X Y RP RN (X p9) (Y p9) (FG s9 + k9)) (k := k) hP9 ho9)
                        have hl : lv_has ls 8 [(3, .int (onI (mjS (fun k9 => mOnR X Y RP RN (X p9) (Y p9) (FG s9 + k9)) (RC s9) G0 (k + 1)).1)), (7, .int (nI j)), (6, .int (((mjS (fun k9 => mOnR X Y RP RN (X p9) (Y p9) (FG s9 + k9)) (RC s9) G0 k).2.2) k)), (5, .int (nI k)), (4, .int (bI ((mjS (fun k9 => mOnR X Y RP RN (X p9) (Y p9) (FG s9 + k9)) (RC s9) G0 (k + 1)).2.1))), (2, .int (nI p9)), (1, .int (nI s9)), (0, .ref mo)] := by rw [h41, h31]; exact hl
                        refine lv_iinc (v := nI (k + 1)) (lv' := [(5, .int (nI (k + 1))), (3, .int (onI (mjS (fun k9 => mOnR X Y RP RN (X p9) (Y p9) (FG s9 + k9)) (RC s9) G0 (k + 1)).1)), (7, .int (nI j)), (6, .int (((mjS (fun k9 => mOnR X Y RP RN (X p9) (Y p9) (FG s9 + k9)) (RC s9) G0 k).2.2) k)), (4, .int (bI ((mjS (fun k9 => mOnR X Y RP RN (X p9) (Y p9) (FG s9 + k9)) (RC s9) G0 (k + 1)).2.1))), (2, .int (nI p9)), (1, .int (nI s9)), (0, .ref mo)]) hx hb dX10_joins_149 hl (k := 3) rfl (nI_c _ 1) (by decide) rfl (fun ls hl => ?_)
                        refine lv_goto (tgt := 8) hx hb dX10_joins_152 (by decide) ?_
                        refine W.widen (k := 0) (n := 0) (by omega) (by omega) ?_
                        exact ih8 (k + 1) ah82 ls _ _ (by omega) (by omega) (by rw [(mjS_2 (P := fun k9 => mOnR X Y RP RN (X p9) (Y p9) (FG s9 + k9)) (k := k) hP9 ho9)]; exact he82.trans (by rw [show j = RC s9 by omega])) (lv_sub hl [0, 4, 1, 5, 6, 7] rfl) hw
                      · skip
                        have c_22 : ¬ (0 ≤ o9) := (not_congr (nI_lex (by decide) (by rfl) (by omega) (by omega))).mp c_22
                        exfalso
                        omega
                    · skip
                      have c_21 : ¬ (RC s9 ≤ j) := (not_congr (nI_lex (by rfl) (by rfl) (by omega) (by omega))).mp c_21
                      refine lv_iload_n hx hb dX10_joins_93 rfl (lv_at hl 4 rfl) ?_
                      refine lv_if_lt (tgt := 138) hx hb dX10_joins_94 (by decide) (fun c_24 => ?_) (fun c_24 => ?_)
                      · skip
                        have c_24 : o9 < 0 := (nI_ltx (by rfl) (by decide) (by omega) (by omega)).mp c_24
                        exfalso
                        omega
                      · skip
                        have c_24 : ¬ (o9 < 0) := (not_congr (nI_ltx (by rfl) (by decide) (by omega) (by omega))).mp c_24
                        refine lv_aload_n hx hb dX10_joins_97 rfl (lv_at hl 7 rfl) ?_
                        refine h_get (ci := 10) (v := .ref (AR 13)) (C := RX10) (T := TX10) (N := 26) hx hb hts kl_X10 hown hK hw hm82.1 rfl 21 (by decide) (hts _ kf_X10_49) rfl rfl dX10_joins_98 ?_
                        refine lv_iload hx hb dX10_joins_101 (lv_at hl 0 rfl) ?_
                        refine lv_aload_n hx hb dX10_joins_103 rfl (lv_at hl 7 rfl) ?_
                        refine h_get (ci := 10) (v := .ref (AR 13)) (C := RX10) (T := TX10) (N := 26) hx hb hts kl_X10 hown hK hw hm82.1 rfl 21 (by decide) (hts _ kf_X10_49) rfl rfl dX10_joins_104 ?_
                        refine lv_iload hx hb dX10_joins_107 (lv_at hl 0 rfl) ?_
                        refine h_iald hx hb hK hw (moA_a (n := 4096) (f := renF ((mjS (fun k9 => mOnR X Y RP RN (X p9) (Y p9) (FG s9 + k9)) (RC s9) G0 k).2.2) (((mjS (fun k9 => mOnR X Y RP RN (X p9) (Y p9) (FG s9 + k9)) (RC s9) G0 k).2.2) k) (((mjS (fun k9 => mOnR X Y RP RN (X p9) (Y p9) (FG s9 + k9)) (RC s9) G0 k).2.2) o9) j) hm82 13 (by decide) rfl rfl) j rfl (by omega) (by omega) dX10_joins_109 ?_
                        refine lv_iload hx hb dX10_joins_110 (lv_at hl 1 rfl) ?_
                        have J_27 : ∀ (v_26 : Int32) (ls : Array Slot), lv_has ls 8 [(7, .int (nI j)), (6, .int (((mjS (fun k9 => mOnR X Y RP RN (X p9) (Y p9) (FG s9 + k9)) (RC s9) G0 k).2.2) k)), (5, .int (nI k)), (4, .int v_19), (3, .int (nI o9)), (2, .int (nI p9)), (1, .int (nI s9)), (0, .ref mo)] → v_26 = (if (renF ((mjS (fun k9 => mOnR X Y RP RN (X p9) (Y p9) (FG s9 + k9)) (RC s9) G0 k).2.2) (((mjS (fun k9 => mOnR X Y RP RN (X p9) (Y p9) (FG s9 + k9)) (RC s9) G0 k).2.2) k) (((mjS (fun k9 => mOnR X Y RP RN (X p9) (Y p9) (FG s9 + k9)) (RC s9) G0 k).2.2) o9) j) j = ((mjS (fun k9 => mOnR X Y RP RN (X p9) (Y p9) (FG s9 + k9)) (RC s9) G0 k).2.2) k then (renF ((mjS (fun k9 => mOnR X Y RP RN (X p9) (Y p9) (FG s9 + k9)) (RC s9) G0 k).2.2) (((mjS (fun k9 => mOnR X Y RP RN (X p9) (Y p9) (FG s9 + k9)) (RC s9) G0 k).2.2) k) (((mjS (fun k9 => mOnR X Y RP RN (X p9) (Y p9) (FG s9 + k9)) (RC s9) G0 k).2.2) o9) j) o9 else (renF ((mjS (fun k9 => mOnR X Y RP RN (X p9) (Y p9) (FG s9 + k9)) (RC s9) G0 k).2.2) (((mjS (fun k9 => mOnR X Y RP RN (X p9) (Y p9) (FG s9 + k9)) (RC s9) G0 k).2.2) k) (((mjS (fun k9 => mOnR X Y RP RN (X p9) (Y p9) (FG s9 + k9)) (RC s9) G0 k).2.2) o9) j) j) → W p l e R s m args below meth c H82 L82 (0 + 0) (0 + 0) Q (F0 m 131 ls [.int v_26, .int (nI j), .ref (AR 13)]) := by
                          intro v_26 ls hl ev_26
                          refine h_iast hx hb hK hw (moA_a (n := 4096) (f := renF ((mjS (fun k9 => mOnR X Y RP RN (X p9) (Y p9) (FG s9 + k9)) (RC s9) G0 k).2.2) (((mjS (fun k9 => mOnR X Y RP RN (X p9) (Y p9) (FG s9 + k9)) (RC s9) G0 k).2.2) k) (((mjS (fun k9 => mOnR X Y RP RN (X p9) (Y p9) (FG s9 + k9)) (RC s9) G0 k).2.2) o9) j) hm82 13 (by decide) rfl rfl) j rfl (by omega) (by omega) dX10_joins_131 (fun H_28 L_29 hw => ?_)
                          obtain ⟨ah_30, eah_30⟩ : ∃ z9 : hA, z9 = hup ah82 (AR 13) (.inl (dT 0, 4096, .inl (upd (renF ((mjS (fun k9 => mOnR X Y RP RN (X p9) (Y p9) (FG s9 + k9)) (RC s9) G0 k).2.2) (((mjS (fun k9 => mOnR X Y RP RN (X p9) (Y p9) (FG s9 + k9)) (RC s9) G0 k).2.2) k) (((mjS (fun k9 => mOnR X Y RP RN (X p9) (Y p9) (FG s9 + k9)) (RC s9) G0 k).2.2) o9) j) j v_26))) := ⟨_, rfl⟩
                          have hw : hW D ah s.heap ah_30 H_28 L_29 := by rw [eah_30]; exact hw
                          have hm_31 : moA dT ah_30 mo AR q (va_up (va_up g 13 (renF ((mjS (fun k9 => mOnR X Y RP RN (X p9) (Y p9) (FG s9 + k9)) (RC s9) G0 k).2.2) (((mjS (fun k9 => mOnR X Y RP RN (X p9) (Y p9) (FG s9 + k9)) (RC s9) G0 k).2.2) k) (((mjS (fun k9 => mOnR X Y RP RN (X p9) (Y p9) (FG s9 + k9)) (RC s9) G0 k).2.2) o9) j)) 13 (upd (renF ((mjS (fun k9 => mOnR X Y RP RN (X p9) (Y p9) (FG s9 + k9)) (RC s9) G0 k).2.2) (((mjS (fun k9 => mOnR X Y RP RN (X p9) (Y p9) (FG s9 + k9)) (RC s9) G0 k).2.2) k) (((mjS (fun k9 => mOnR X Y RP RN (X p9) (Y p9) (FG s9 + k9)) (RC s9) G0 k).2.2) o9) j) j v_26)) := moA_g hm82 13 (by decide) eah_30
                          refine lv_iinc (v := nI (j + 1)) (lv' := [(7, .int (nI (j + 1))), (6, .int (((mjS (fun k9 => mOnR X Y RP RN (X p9) (Y p9) (FG s9 + k9)) (RC s9) G0 k).2.2) k)), (5, .int (nI k)), (4, .int v_19), (3, .int (nI o9)), (2, .int (nI p9)), (1, .int (nI s9)), (0, .ref mo)]) hx hb dX10_joins_132 hl (k := 0) rfl (nI_c _ 1) (by decide) rfl (fun ls hl => ?_)
                          refine lv_goto (tgt := 82) hx hb dX10_joins_135 (by decide) ?_
                          exact ih82 (j + 1) ah_30 ls _ _ (by omega) (by omega) (by rw [eah_30, he82, hup_hup]; exact congrArg (fun z => hup ah (AR 13) (.inl (dT 0, 4096, .inl z))) (ren_s ev_26)) (lv_sub hl [0, 1, 2, 3, 4, 5, 6, 7] rfl) hw
                        refine lv_icmp_ne (tgt := 124) hx hb dX10_joins_112 (by decide) (fun c_25 => ?_) (fun c_25 => ?_)
                        · skip
                          refine lv_aload_n hx hb dX10_joins_124 rfl (lv_at hl 7 rfl) ?_
                          refine h_get (ci := 10) (v := .ref (AR 13)) (C := RX10) (T := TX10) (N := 26) hx hb hts kl_X10 hown hK hw hm82.1 rfl 21 (by decide) (hts _ kf_X10_49) rfl rfl dX10_joins_125 ?_
                          refine lv_iload hx hb dX10_joins_128 (lv_at hl 0 rfl) ?_
                          refine h_iald hx hb hK hw (moA_a (n := 4096) (f := renF ((mjS (fun k9 => mOnR X Y RP RN (X p9) (Y p9) (FG s9 + k9)) (RC s9) G0 k).2.2) (((mjS (fun k9 => mOnR X Y RP RN (X p9) (Y p9) (FG s9 + k9)) (RC s9) G0 k).2.2) k) (((mjS (fun k9 => mOnR X Y RP RN (X p9) (Y p9) (FG s9 + k9)) (RC s9) G0 k).2.2) o9) j) hm82 13 (by decide) rfl rfl) j rfl (by omega) (by omega) dX10_joins_130 ?_
                          exact J_27 ((renF ((mjS (fun k9 => mOnR X Y RP RN (X p9) (Y p9) (FG s9 + k9)) (RC s9) G0 k).2.2) (((mjS (fun k9 => mOnR X Y RP RN (X p9) (Y p9) (FG s9 + k9)) (RC s9) G0 k).2.2) k) (((mjS (fun k9 => mOnR X Y RP RN (X p9) (Y p9) (FG s9 + k9)) (RC s9) G0 k).2.2) o9) j) j) ls (lv_sub hl [0, 1, 2, 3, 4, 5, 6, 7] rfl) (by rw [if_neg c_25])
                        · skip
                          refine lv_aload_n hx hb dX10_joins_115 rfl (lv_at hl 7 rfl) ?_
                          refine h_get (ci := 10) (v := .ref (AR 13)) (C := RX10) (T := TX10) (N := 26) hx hb hts kl_X10 hown hK hw hm82.1 rfl 21 (by decide) (hts _ kf_X10_49) rfl rfl dX10_joins_116 ?_
                          refine lv_iload_n hx hb dX10_joins_119 rfl (lv_at hl 4 rfl) ?_
                          refine h_iald hx hb hK hw (moA_a (n := 4096) (f := renF ((mjS (fun k9 => mOnR X Y RP RN (X p9) (Y p9) (FG s9 + k9)) (RC s9) G0 k).2.2) (((mjS (fun k9 => mOnR X Y RP RN (X p9) (Y p9) (FG s9 + k9)) (RC s9) G0 k).2.2) k) (((mjS (fun k9 => mOnR X Y RP RN (X p9) (Y p9) (FG s9 + k9)) (RC s9) G0 k).2.2) o9) j) hm82 13 (by decide) rfl rfl) o9 rfl (by omega) (by omega) dX10_joins_120 ?_
                          refine lv_goto (tgt := 131) hx hb dX10_joins_121 (by decide) ?_
                          exact J_27 ((renF ((mjS (fun k9 => mOnR X Y RP RN (X p9) (Y p9) (FG s9 + k9)) (RC s9) G0 k).2.2) (((mjS (fun k9 => mOnR X Y RP RN (X p9) (Y p9) (FG s9 + k9)) (RC s9) G0 k).2.2) k) (((mjS (fun k9 => mOnR X Y RP RN (X p9) (Y p9) (FG s9 + k9)) (RC s9) G0 k).2.2) o9) j) o9) ls (lv_sub hl [0, 1, 2, 3, 4, 5, 6, 7] rfl) (by rw [if_pos c_25])
                exact LP82 ((RC s9 - 0) + 1) 0 ah8 ls _ _ (Nat.lt_succ_self _) (by omega) (by rw [renF_0]; exact he8) (lv_sub hl [0, 1, 2, 3, 4, 5, 6, 7] rfl) hw
              refine lv_icmp_ne (tgt := 70) hx hb dX10_joins_64 (by decide) (fun c_18 => ?_) (fun c_18 => ?_)
              · skip
                exact J_20 (bI ((mjS (fun k9 => mOnR X Y RP RN (X p9) (Y p9) (FG s9 + k9)) (RC s9) G0 k).2.1)) ls (lv_sub hl [0, 1, 2, 3, 4, 5] rfl) (by rw [if_neg c_18])
              · skip
                refine lv_iconst (v := 1) hx hb dX10_joins_67 (by decide) ?_
                refine lv_istore (lv' := [(4, .int 1), (5, .int (nI k)), (3, .int (nI o9)), (2, .int (nI p9)), (1, .int (nI s9)), (0, .ref mo)]) hx hb dX10_joins_68 hl (by decide) rfl (fun ls hl => ?_)
                exact J_20 1 ls (lv_sub hl [1, 0, 2, 3, 4, 5] rfl) (by rw [if_pos c_18])
  exact LP8 ((RC s9 - 0) + 1) 0 ah ls _ _ (Nat.lt_succ_self _) (by omega) ((hup_id (show ah (AR 13) = some (.inl (dT 0, LN 13, .inl G0)) from by rw [← hG]; exact hm.2.1 13 (by decide))).symm) (lv_sub hl [0, 1, 2, 5, 4, 3] rfl) hw

set_option maxHeartbeats 4000000 in
set_option maxRecDepth 100000 in
theorem c_X10_splitOf (l : Launch) (D : va_G) (dT : Nat → ClassId) (ah : hA) (sz : Nat) (mo : Nat) (AR : Nat → Nat) (q : Nat → Int32) (g : Nat → Nat → Int32) (hm : moA dT ah mo AR q g) (np : Nat) (X Y : Nat → Int32) (hX : moX np g X Y) (nr : Nat) (RP RN : Nat → Nat) (hRg : moR np nr g RP RN) (ns : Nat) (FG RC PF PC : Nat → Nat) (KD WH PA : Nat → Int32) (hS : moS ns np nr g FG RC PF PC KD WH PA) (pl : Nat → Int32) (hpl : g 12 = pl) (s9 : Nat) (hs9 : s9 < ns) (sh9 pt9 : Int32) (hrc : 0 < RC s9) : hMet l yX10_splitOf cX10_splitOf 7 (some .int) ({ frames := 5, cells := 0, slots := 0, locals := 120 }) D dT [.ref mo, .int (nI s9), .int sh9, .int pt9] ah sz (fun r ah2 => moO dT ah ah2 mo AR q g pl (spO X Y RP RN (FG s9) (RC s9) sh9 pt9 pl) r) 0 0 := by
  refine h_met (by decide) (Nat.le_of_ble_eq_true rfl) ?_
  intro p e s m below meth c ls R Q args hav hR hQ hB hl hsz hw
  obtain ⟨hx, hb, hml, hr, hts, hown, hlk, hin, hK⟩ := hB
  have hown : s.vm.findClass RX10 = some m.cls := hown
  have hl : lv_has ls 7 [(0, .ref mo), (1, .int (nI s9)), (2, .int sh9), (3, .int pt9)] := hl
  have hnp := hX.1
  have hnr := hRg.1
  have hns9 := hS.1
  have hJ0 : moK dT ah ah mo AR q g q g := moK_r hm
  have hFR := (hS.2 s9 hs9).2.2.2.2.2.2.2.2
  refine lv_iconst (v := 0) hx hb dX10_splitOf_0 (by decide) ?_
  refine lv_istore (lv' := [(4, .int 0), (0, .ref mo), (1, .int (nI s9)), (2, .int sh9), (3, .int pt9)]) hx hb dX10_splitOf_1 hl (by decide) rfl (fun ls hl => ?_)
  have LP3 : ∀ (k3 : Nat) (k : Nat) (ah3 : hA) (ls : Array Slot) (H3 : Heap) (L3 : List Loc), (RC s9 - k < k3) → (k ≤ RC s9) → (ah3 = hup ah (AR 13) (.inl (dT 0, 4096, .inl (idG (g 13) k)))) → lv_has ls 7 [(4, .int (nI k)), (3, .int pt9), (2, .int sh9), (1, .int (nI s9)), (0, .ref mo)] → hW D ah s.heap ah3 H3 L3 → W p l e R s m args below meth c H3 L3 (0) (0) Q (F0 m 3 ls []) := by
    intro k3
    induction k3 with
    | zero => intro k ah3 ls H3 L3 hk; exact absurd hk (Nat.not_lt_zero _)
    | succ k3 ih3 =>
      intro k ah3 ls H3 L3 hk3 hk3 he3 hl hw
      have hJ3 : moK dT ah ah3 mo AR q g q (va_up g 13 (idG (g 13) k)) := moK_g hJ0 13 (by decide) he3
      have hm3 := hJ3.1
      refine lv_iload hx hb dX10_splitOf_3 (lv_at hl 0 rfl) ?_
      refine lv_aload_n hx hb dX10_splitOf_5 rfl (lv_at hl 4 rfl) ?_
      refine h_get (ci := 10) (v := .ref (AR 6)) (C := RX10) (T := TX10) (N := 26) hx hb hts kl_X10 hown hK hw hm3.1 rfl 11 (by decide) (hts _ kf_X10_28) rfl rfl dX10_splitOf_6 ?_
      refine lv_iload_n hx hb dX10_splitOf_9 rfl (lv_at hl 3 rfl) ?_
      refine h_iald hx hb hK hw (moA_a (n := 2048) (f := g 6) hm3 6 (by decide) rfl rfl) s9 rfl (by omega) (by omega) dX10_splitOf_10 ?_
      rw [show (g 6) s9 = nI (RC s9) from (hS.2 _ (by omega)).2.2.2.2.2.2.1]
      refine lv_icmp_ge (tgt := 29) hx hb dX10_splitOf_11 (by decide) (fun c_1 => ?_) (fun c_1 => ?_)
      · skip
        have c_1 : RC s9 ≤ k := (nI_lex (by rfl) (by rfl) (by omega) (by omega)).mp c_1
        have hE9 := (hRg.2 (FG s9 + RC s9 - 1) (by omega)).2.2
        have hE8 := (hRg.2 (FG s9) (by omega)).2.2
        refine lv_aload_n hx hb dX10_splitOf_29 rfl (lv_at hl 4 rfl) ?_
        refine h_get (ci := 10) (v := .ref (AR 7)) (C := RX10) (T := TX10) (N := 26) hx hb hts kl_X10 hown hK hw hm3.1 rfl 12 (by decide) (hts _ kf_X10_31) rfl rfl dX10_splitOf_30 ?_
        refine lv_aload_n hx hb dX10_splitOf_33 rfl (lv_at hl 4 rfl) ?_
        refine h_get (ci := 10) (v := .ref (AR 5)) (C := RX10) (T := TX10) (N := 26) hx hb hts kl_X10 hown hK hw hm3.1 rfl 10 (by decide) (hts _ kf_X10_25) rfl rfl dX10_splitOf_34 ?_
        refine lv_iload_n hx hb dX10_splitOf_37 rfl (lv_at hl 3 rfl) ?_
        refine h_iald hx hb hK hw (moA_a (n := 2048) (f := g 5) hm3 5 (by decide) rfl rfl) s9 rfl (by omega) (by omega) dX10_splitOf_38 ?_
        rw [show (g 5) s9 = nI (FG s9) from (hS.2 _ (by omega)).2.2.2.2.2.1]
        refine h_iald hx hb hK hw (moA_a (n := 4096) (f := g 7) hm3 7 (by decide) rfl rfl) (FG s9) rfl (by omega) (by omega) dX10_splitOf_39 ?_
        rw [show (g 7) (FG s9) = nI (RP (FG s9)) from (hRg.2 _ (by omega)).1]
        refine lv_istore (lv' := [(4, .int (nI (RP (FG s9)))), (3, .int pt9), (2, .int sh9), (1, .int (nI s9)), (0, .ref mo)]) hx hb dX10_splitOf_40 hl (by decide) rfl (fun ls hl => ?_)
        refine lv_aload_n hx hb dX10_splitOf_42 rfl (lv_at hl 4 rfl) ?_
        refine lv_aload_n hx hb dX10_splitOf_43 rfl (lv_at hl 4 rfl) ?_
        refine h_get (ci := 10) (v := .ref (AR 5)) (C := RX10) (T := TX10) (N := 26) hx hb hts kl_X10 hown hK hw hm3.1 rfl 10 (by decide) (hts _ kf_X10_25) rfl rfl dX10_splitOf_44 ?_
        refine lv_iload_n hx hb dX10_splitOf_47 rfl (lv_at hl 3 rfl) ?_
        refine h_iald hx hb hK hw (moA_a (n := 2048) (f := g 5) hm3 5 (by decide) rfl rfl) s9 rfl (by omega) (by omega) dX10_splitOf_48 ?_
        rw [show (g 5) s9 = nI (FG s9) from (hS.2 _ (by omega)).2.2.2.2.2.1]
        refine lv_aload_n hx hb dX10_splitOf_49 rfl (lv_at hl 4 rfl) ?_
        refine h_get (ci := 10) (v := .ref (AR 6)) (C := RX10) (T := TX10) (N := 26) hx hb hts kl_X10 hown hK hw hm3.1 rfl 11 (by decide) (hts _ kf_X10_28) rfl rfl dX10_splitOf_50 ?_
        refine lv_iload_n hx hb dX10_splitOf_53 rfl (lv_at hl 3 rfl) ?_
        refine h_iald hx hb hK hw (moA_a (n := 2048) (f := g 6) hm3 6 (by decide) rfl rfl) s9 rfl (by omega) (by omega) dX10_splitOf_54 ?_
        rw [show (g 6) s9 = nI (RC s9) from (hS.2 _ (by omega)).2.2.2.2.2.2.1]
        refine lv_iadd hx hb dX10_splitOf_55 ?_
        refine lv_topi (fun t_2 et_2 => ?_)
        obtain rfl : t_2 = nI (FG s9 + RC s9) := et_2.trans (nI_add _ _)
        refine lv_iconst (v := 1) hx hb dX10_splitOf_56 (by decide) ?_
        refine lv_isub hx hb dX10_splitOf_57 ?_
        refine lv_topi (fun t_3 et_3 => ?_)
        obtain rfl : t_3 = nI (FG s9 + RC s9 - 1) := et_3.trans (nI_s _ 1 (by omega))
        refine h_callV (n := 1) (ci := 10) (b := mo) (As := [.int (nI (FG s9 + RC s9 - 1))]) (rest := []) ⟨hx, hb, hml, hown, hts⟩ hK hw (c_X10_end l D dT ah3 H3.size mo AR q (va_up g 13 (idG (g 13) k)) hm3 np X Y hX nr RP RN hRg (FG s9 + RC s9 - 1) (by omega)) ko_X10_end km_X10_129 ki_X10_end ks_X10_end kn_X10 (by decide +kernel) rfl hm3.1 rfl hl.1 rfl (by simp [Value.category]) dX10_splitOf_58 (by rw [hR]; exact ⟨rfl, rfl, Nat.le_of_ble_eq_true rfl, Nat.le_of_ble_eq_true rfl, by simp, by simp⟩) (fun r_4 ah_5 H_6 L_7 st_8 hp hw hst => ?_)
        obtain ⟨rfl, rfl⟩ := hp
        have hst : st_8 = [.int (nI (RP (FG s9 + RC s9 - 1) + RN (FG s9 + RC s9 - 1)) - 1)] := hst
        subst hst
        refine lv_istore (lv' := [(5, .int (nI (RP (FG s9 + RC s9 - 1) + RN (FG s9 + RC s9 - 1)) - 1)), (4, .int (nI (RP (FG s9)))), (3, .int pt9), (2, .int sh9), (1, .int (nI s9)), (0, .ref mo)]) hx hb dX10_splitOf_61 hl (by decide) rfl (fun ls hl => ?_)
        refine lv_iload hx hb dX10_splitOf_63 (lv_at hl 1 rfl) ?_
        refine lv_istore (lv' := [(6, .int (nI (RP (FG s9)))), (5, .int (nI (RP (FG s9 + RC s9 - 1) + RN (FG s9 + RC s9 - 1)) - 1)), (4, .int (nI (RP (FG s9)))), (3, .int pt9), (2, .int sh9), (1, .int (nI s9)), (0, .ref mo)]) hx hb dX10_splitOf_65 hl (by decide) rfl (fun ls hl => ?_)
        have LP67 : ∀ (k67 : Nat) (i : Nat) (G67 : Nat → Int32) (ah67 : hA) (ls : Array Slot) (H67 : Heap) (L67 : List Loc), (RP (FG s9 + RC s9 - 1) + RN (FG s9 + RC s9 - 1) - i < k67) → (moK dT ah ah67 mo AR q g q (va_up g 13 G67)) → (∃ h, spM X Y RP RN (FG s9) (RC s9) i = some h ∧ ∀ j, j < RC s9 → G67 j = h j) → (i ≤ RP (FG s9 + RC s9 - 1) + RN (FG s9 + RC s9 - 1) - RP (FG s9)) → lv_has ls 7 [(6, .int (nI (RP (FG s9) + i))), (5, .int (nI (RP (FG s9 + RC s9 - 1) + RN (FG s9 + RC s9 - 1)) - 1)), (4, .int (nI (RP (FG s9)))), (3, .int pt9), (2, .int sh9), (1, .int (nI s9)), (0, .ref mo)] → hW D ah s.heap ah67 H67 L67 → W p l e R s m args below meth c H67 L67 (0 + 0) (0 + 0) Q (F0 m 67 ls []) := by
          intro k67
          induction k67 with
          | zero => intro i G67 ah67 ls H67 L67 hk; exact absurd hk (Nat.not_lt_zero _)
          | succ k67 ih67 =>
            intro i G67 ah67 ls H67 L67 hk67 hJ67 hx67 hi67 hl hw
            obtain ⟨h67, hs67, ha67⟩ := hx67
            have hE9 := (hRg.2 (FG s9 + RC s9 - 1) (by omega)).2.2
            refine lv_iload hx hb dX10_splitOf_67 (lv_at hl 0 rfl) ?_
            refine lv_iload hx hb dX10_splitOf_69 (lv_at hl 1 rfl) ?_
            refine lv_icmp_gt (tgt := 112) hx hb dX10_splitOf_71 (by decide) (fun c_9 => ?_) (fun c_9 => ?_)
            · skip
              have c_9 : RP (FG s9 + RC s9 - 1) + RN (FG s9 + RC s9 - 1) < RP (FG s9) + i + 1 := (nIm_gt (by omega) (by omega)).mp c_9
              refine lv_iconst (v := 0) hx hb dX10_splitOf_112 (by decide) ?_
              rw [hQ]
              exact h_iret hx hb hr hlk hsz hw (by simp) (by simp) dX10_splitOf_113 ⟨_, q, (va_up g 13 G67), rfl, hJ67, (by rw [show spO X Y RP RN (FG s9) (RC s9) sh9 pt9 pl = none from spO_n (by rw [← show i = RP (FG s9 + RC s9 - 1) + RN (FG s9 + RC s9 - 1) - RP (FG s9) by omega]; exact hs67)]; exact ⟨rfl, hpl⟩)⟩
            · skip
              have c_9 : ¬ (RP (FG s9 + RC s9 - 1) + RN (FG s9 + RC s9 - 1) < RP (FG s9) + i + 1) := (not_congr (nIm_gt (by omega) (by omega))).mp c_9
              refine lv_aload_n hx hb dX10_splitOf_74 rfl (lv_at hl 6 rfl) ?_
              refine lv_iload hx hb dX10_splitOf_75 (lv_at hl 0 rfl) ?_
              refine lv_iload hx hb dX10_splitOf_77 (lv_at hl 2 rfl) ?_
              refine h_callV (n := 2) (ci := 10) (b := mo) (As := [.int (nI (RP (FG s9) + i)), .int (nI (RP (FG s9)))]) (rest := []) ⟨hx, hb, hml, hown, hts⟩ hK hw (c_X10_isFirst l D dT ah67 H67.size mo AR q (va_up g 13 G67) hJ67.1 np X Y hX (RP (FG s9) + i) (RP (FG s9)) (by omega) (by omega)) ko_X10_isFirst km_X10_195 ki_X10_isFirst ks_X10_isFirst kn_X10 (by decide +kernel) rfl hJ67.1.1 rfl hl.1 rfl (by simp [Value.category]) dX10_splitOf_79 (by rw [hR]; exact ⟨rfl, rfl, Nat.le_of_ble_eq_true rfl, Nat.le_of_ble_eq_true rfl, by simp, by simp⟩) (fun r_10 ah_11 H_12 L_13 st_14 hp hw hst => ?_)
              obtain ⟨rfl, rfl⟩ := hp
              have hst : st_14 = [.int (bI (mFst X Y (RP (FG s9) + i) (RP (FG s9))))] := hst
              subst hst
              refine lv_if_eq (tgt := 106) hx hb dX10_splitOf_82 (by decide) (fun c_15 => ?_) (fun c_15 => ?_)
              · skip
                have c_15 : mFst X Y (RP (FG s9) + i) (RP (FG s9)) = false := bI_0.mp c_15
                refine lv_iinc (v := nI (RP (FG s9) + i + 1)) (lv' := [(6, .int (nI (RP (FG s9) + i + 1))), (5, .int (nI (RP (FG s9 + RC s9 - 1) + RN (FG s9 + RC s9 - 1)) - 1)), (4, .int (nI (RP (FG s9)))), (3, .int pt9), (2, .int sh9), (1, .int (nI s9)), (0, .ref mo)]) hx hb dX10_splitOf_106 hl (k := 0) rfl (nI_c _ 1) (by decide) rfl (fun ls hl => ?_)
                refine lv_goto (tgt := 67) hx hb dX10_splitOf_109 (by decide) ?_
                refine W.widen (k := 0 + 0) (n := 0 + 0) (by omega) (by omega) ?_
                exact ih67 (i + 1) G67 ah67 ls _ _ (by omega) hJ67 ⟨h67, spM_f hs67 c_15, ha67⟩ (by omega) (lv_sub hl [0, 1, 2, 3, 4, 5, 6] rfl) hw
              · skip
                have c_15 : ¬ (mFst X Y (RP (FG s9) + i) (RP (FG s9)) = false) := (not_congr bI_0).mp c_15
                refine lv_aload_n hx hb dX10_splitOf_85 rfl (lv_at hl 6 rfl) ?_
                refine lv_iload_n hx hb dX10_splitOf_86 rfl (lv_at hl 5 rfl) ?_
                refine lv_iload hx hb dX10_splitOf_87 (lv_at hl 0 rfl) ?_
                refine h_callV (n := 2) (ci := 10) (b := mo) (As := [.int (nI s9), .int (nI (RP (FG s9) + i))]) (rest := []) ⟨hx, hb, hml, hown, hts⟩ hK hw (c_X10_joins l D dT ah67 H_12.size mo AR q (va_up g 13 G67) hJ67.1 np X Y hX nr RP RN hRg ns FG RC PF PC KD WH PA hS G67 rfl s9 (RP (FG s9) + i) (by omega) (by omega)) ko_X10_joins km_X10_198 ki_X10_joins ks_X10_joins kn_X10 (by decide +kernel) rfl hJ67.1.1 rfl hl.1 rfl (by simp [Value.category]) dX10_splitOf_89 (by rw [hR]; exact ⟨rfl, rfl, Nat.le_of_ble_eq_true rfl, Nat.le_of_ble_eq_true rfl, by simp, by simp⟩) (fun r_17 ah_18 H_19 L_20 st_21 hp hw hst => ?_)
                obtain ⟨rfl, eah_18⟩ := hp
                have hJ_22 : moK dT ah ah_18 mo AR q g q (va_up g 13 ((mjS (fun k9 => mOnR X Y RP RN (X (RP (FG s9) + i)) (Y (RP (FG s9) + i)) (FG s9 + k9)) (RC s9) G67 (RC s9)).2.2)) := moK_13 hJ67 eah_18
                have hst : st_21 = [.int (bI ((mjS (fun k9 => mOnR X Y RP RN (X (RP (FG s9) + i)) (Y (RP (FG s9) + i)) (FG s9 + k9)) (RC s9) G67 (RC s9)).2.1))] := hst
                subst hst
                refine lv_if_eq (tgt := 106) hx hb dX10_splitOf_92 (by decide) (fun c_23 => ?_) (fun c_23 => ?_)
                · skip
                  have c_23 : (mjS (fun k9 => mOnR X Y RP RN (X (RP (FG s9) + i)) (Y (RP (FG s9) + i)) (FG s9 + k9)) (RC s9) G67 (RC s9)).2.1 = false := bI_0.mp c_23
                  refine lv_iinc (v := nI (RP (FG s9) + i + 1)) (lv' := [(6, .int (nI (RP (FG s9) + i + 1))), (5, .int (nI (RP (FG s9 + RC s9 - 1) + RN (FG s9 + RC s9 - 1)) - 1)), (4, .int (nI (RP (FG s9)))), (3, .int pt9), (2, .int sh9), (1, .int (nI s9)), (0, .ref mo)]) hx hb dX10_splitOf_106 hl (k := 0) rfl (nI_c _ 1) (by decide) rfl (fun ls hl => ?_)
                  refine lv_goto (tgt := 67) hx hb dX10_splitOf_109 (by decide) ?_
                  refine W.widen (k := 0 + 0) (n := 0 + 0) (by omega) (by omega) ?_
                  exact ih67 (i + 1) ((mjS (fun k9 => mOnR X Y RP RN (X (RP (FG s9) + i)) (Y (RP (FG s9) + i)) (FG s9 + k9)) (RC s9) G67 (RC s9)).2.2) ah_18 ls _ _ (by omega) hJ_22 ⟨_, spM_j hs67 c_15 ha67 c_23, (mjS_c (n := RC s9) ha67 (RC s9) (Nat.le_refl _)).2.2⟩ (by omega) (lv_sub hl [0, 1, 2, 3, 4, 5, 6] rfl) hw
                · skip
                  have c_23 : ¬ ((mjS (fun k9 => mOnR X Y RP RN (X (RP (FG s9) + i)) (Y (RP (FG s9) + i)) (FG s9 + k9)) (RC s9) G67 (RC s9)).2.1 = false) := (not_congr bI_0).mp c_23
                  refine lv_aload_n hx hb dX10_splitOf_95 rfl (lv_at hl 6 rfl) ?_
                  refine lv_bipush (v := 8) hx hb dX10_splitOf_96 (by decide) ?_
                  refine lv_iload_n hx hb dX10_splitOf_98 rfl (lv_at hl 4 rfl) ?_
                  refine lv_iload_n hx hb dX10_splitOf_99 rfl (lv_at hl 3 rfl) ?_
                  refine lv_iconst (v := (-1)) hx hb dX10_splitOf_100 (by decide) ?_
                  refine lv_iconst (v := (-1)) hx hb dX10_splitOf_101 (by decide) ?_
                  refine h_callV (n := 5) (ci := 10) (b := mo) (As := [.int 8, .int sh9, .int pt9, .int (-1), .int (-1)]) (rest := []) ⟨hx, hb, hml, hown, hts⟩ hK hw (c_X10_told l D dT ah_18 H_19.size mo AR q (va_up g 13 ((mjS (fun k9 => mOnR X Y RP RN (X (RP (FG s9) + i)) (Y (RP (FG s9) + i)) (FG s9 + k9)) (RC s9) G67 (RC s9)).2.2)) hJ_22.1 pl hpl 8 sh9 pt9 (-1) (-1)) ko_X10_told km_X10_178 ki_X10_told ks_X10_told kn_X10 (by decide +kernel) rfl hJ_22.1.1 rfl hl.1 rfl (by simp [Value.category]) dX10_splitOf_102 (by rw [hR]; exact ⟨rfl, rfl, Nat.le_of_ble_eq_true rfl, Nat.le_of_ble_eq_true rfl, by simp, by simp⟩) (fun r_25 ah_26 H_27 L_28 st_29 hp hw hst => ?_)
                  obtain ⟨rfl, eah_26⟩ := hp
                  have hJ_31 : moK dT ah ah_26 mo AR q g q (va_up (va_up g 13 ((mjS (fun k9 => mOnR X Y RP RN (X (RP (FG s9) + i)) (Y (RP (FG s9) + i)) (FG s9 + k9)) (RC s9) G67 (RC s9)).2.2)) 12 (p1 (upd pl 0 sh9) pt9 (-1) (-1))) := moK_g hJ_22 12 (by decide) eah_26
                  have hst : st_29 = [.int 8] := hst
                  subst hst
                  rw [hQ]
                  exact h_iret hx hb hr hlk hsz hw (by simp) (by simp) dX10_splitOf_105 ⟨_, q, (va_up (va_up g 13 ((mjS (fun k9 => mOnR X Y RP RN (X (RP (FG s9) + i)) (Y (RP (FG s9) + i)) (FG s9 + k9)) (RC s9) G67 (RC s9)).2.2)) 12 (p1 (upd pl 0 sh9) pt9 (-1) (-1))), rfl, hJ_31, (by rw [show spO X Y RP RN (FG s9) (RC s9) sh9 pt9 pl = some (8, p1 (upd pl 0 sh9) pt9 (-1) (-1)) from spO_s (i := i) (by omega) (spM_y hs67 c_15 ha67 c_23)]; exact ⟨rfl, (show (0 : Int32) < 8 by decide), rfl⟩)⟩
        exact LP67 ((RP (FG s9 + RC s9 - 1) + RN (FG s9 + RC s9 - 1) - 0) + 1) 0 (idG (g 13) k) ah3 ls _ _ (Nat.lt_succ_self _) hJ3 ⟨_, rfl, fun j hj => by rw [show k = RC s9 by omega]; simp only [idG, idF, if_pos hj]⟩ (by omega) (lv_sub hl [0, 1, 2, 3, 4, 5, 6] rfl) hw
      · skip
        have c_1 : ¬ (RC s9 ≤ k) := (not_congr (nI_lex (by rfl) (by rfl) (by omega) (by omega))).mp c_1
        refine lv_aload_n hx hb dX10_splitOf_14 rfl (lv_at hl 4 rfl) ?_
        refine h_get (ci := 10) (v := .ref (AR 13)) (C := RX10) (T := TX10) (N := 26) hx hb hts kl_X10 hown hK hw hm3.1 rfl 21 (by decide) (hts _ kf_X10_49) rfl rfl dX10_splitOf_15 ?_
        refine lv_iload hx hb dX10_splitOf_18 (lv_at hl 0 rfl) ?_
        refine lv_iload hx hb dX10_splitOf_20 (lv_at hl 0 rfl) ?_
        refine h_iast hx hb hK hw (moA_a (n := 4096) (f := idG (g 13) k) hm3 13 (by decide) rfl rfl) k rfl (by omega) (by omega) dX10_splitOf_22 (fun H_32 L_33 hw => ?_)
        obtain ⟨ah_34, eah_34⟩ : ∃ z9 : hA, z9 = hup ah3 (AR 13) (.inl (dT 0, 4096, .inl (upd (idG (g 13) k) k (nI k)))) := ⟨_, rfl⟩
        have hw : hW D ah s.heap ah_34 H_32 L_33 := by rw [eah_34]; exact hw
        have hm_35 : moA dT ah_34 mo AR q (va_up (va_up g 13 (idG (g 13) k)) 13 (upd (idG (g 13) k) k (nI k))) := moA_g hm3 13 (by decide) eah_34
        refine lv_iinc (v := nI (k + 1)) (lv' := [(4, .int (nI (k + 1))), (3, .int pt9), (2, .int sh9), (1, .int (nI s9)), (0, .ref mo)]) hx hb dX10_splitOf_23 hl (k := 0) rfl (nI_c _ 1) (by decide) rfl (fun ls hl => ?_)
        refine lv_goto (tgt := 3) hx hb dX10_splitOf_26 (by decide) ?_
        exact ih3 (k + 1) ah_34 ls _ _ (by omega) (by omega) (by rw [eah_34, he3, hup_hup, idG_s]) (lv_sub hl [0, 1, 2, 3, 4] rfl) hw
  exact LP3 ((RC s9 - 0) + 1) 0 ah ls _ _ (Nat.lt_succ_self _) (by omega) ((hup_id (show ah (AR 13) = some (.inl (dT 0, LN 13, .inl (idG (g 13) 0))) from hm.2.1 13 (by decide))).symm) (lv_sub hl [0, 4, 3, 2, 1] rfl) hw

set_option maxHeartbeats 4000000 in
set_option maxRecDepth 100000 in
theorem c_X10_polygon (l : Launch) (D : va_G) (dT : Nat → ClassId) (ah : hA) (sz : Nat) (mo : Nat) (AR : Nat → Nat) (q : Nat → Int32) (g : Nat → Nat → Int32) (hm : moA dT ah mo AR q g) (np : Nat) (X Y : Nat → Int32) (hX : moX np g X Y) (nr : Nat) (RP RN : Nat → Nat) (hRg : moR np nr g RP RN) (ns : Nat) (FG RC PF PC : Nat → Nat) (KD WH PA : Nat → Int32) (hS : moS ns np nr g FG RC PF PC KD WH PA) (pl : Nat → Int32) (hpl : g 12 = pl) (s9 : Nat) (hs9 : s9 < ns) (sh9 pt9 : Int32) : hMet l yX10_polygon cX10_polygon 5 (some .int) ({ frames := 7, cells := 0, slots := 0, locals := 174 }) D dT [.ref mo, .int (nI s9), .int sh9, .int pt9] ah sz (fun r ah2 => moO dT ah ah2 mo AR q g pl (poM X Y RP RN (FG s9) (RC s9) sh9 pt9 pl) r) 0 0 := by
  refine h_met (by decide) (Nat.le_of_ble_eq_true rfl) ?_
  intro p e s m below meth c ls R Q args hav hR hQ hB hl hsz hw
  obtain ⟨hx, hb, hml, hr, hts, hown, hlk, hin, hK⟩ := hB
  have hown : s.vm.findClass RX10 = some m.cls := hown
  have hl : lv_has ls 5 [(0, .ref mo), (1, .int (nI s9)), (2, .int sh9), (3, .int pt9)] := hl
  have hnp := hX.1
  have hnr := hRg.1
  have hns9 := hS.1
  have hJ0 : moK dT ah ah mo AR q g q g := moK_r hm
  have hFR := (hS.2 s9 hs9).2.2.2.2.2.2.2.2
  refine lv_aload_n hx hb dX10_polygon_0 rfl (lv_at hl 0 rfl) ?_
  refine h_get (ci := 10) (v := .ref (AR 6)) (C := RX10) (T := TX10) (N := 26) hx hb hts kl_X10 hown hK hw hm.1 rfl 11 (by decide) (hts _ kf_X10_28) rfl rfl dX10_polygon_1 ?_
  refine lv_iload_n hx hb dX10_polygon_4 rfl (lv_at hl 1 rfl) ?_
  refine h_iald hx hb hK hw (moA_a (n := 2048) (f := g 6) hm 6 (by decide) rfl rfl) s9 rfl (by omega) (by omega) dX10_polygon_5 ?_
  rw [show (g 6) s9 = nI (RC s9) from (hS.2 _ (by omega)).2.2.2.2.2.2.1]
  refine lv_if_ne (tgt := 11) hx hb dX10_polygon_6 (by decide) (fun c_1 => ?_) (fun c_1 => ?_)
  · skip
    have c_1 : ¬ (RC s9 = 0) := (not_congr (nI_eqx (by rfl) (by decide) (by omega) (by omega))).mp c_1
    refine lv_aload_n hx hb dX10_polygon_11 rfl (lv_at hl 0 rfl) ?_
    refine lv_iload_n hx hb dX10_polygon_12 rfl (lv_at hl 1 rfl) ?_
    refine lv_iload_n hx hb dX10_polygon_13 rfl (lv_at hl 2 rfl) ?_
    refine lv_iload_n hx hb dX10_polygon_14 rfl (lv_at hl 3 rfl) ?_
    refine h_callV (n := 3) (ci := 10) (b := mo) (As := [.int (nI s9), .int sh9, .int pt9]) (rest := []) ⟨hx, hb, hml, hown, hts⟩ hK hw (c_X10_ringsOf l D dT ah s.heap.size mo AR q g hm np X Y hX nr RP RN hRg ns FG RC PF PC KD WH PA hS pl hpl s9 (by omega) sh9 pt9) ko_X10_ringsOf km_X10_201 ki_X10_ringsOf ks_X10_ringsOf kn_X10 (by decide +kernel) rfl hm.1 rfl hl.1 rfl (by simp [Value.category]) dX10_polygon_15 (by rw [hR]; exact ⟨rfl, rfl, Nat.le_of_ble_eq_true rfl, Nat.le_of_ble_eq_true rfl, by simp, by simp⟩) (fun r_2 ah_3 H_4 L_5 st_6 hp hw hst => ?_)
    obtain ⟨v_7, q_8, g_9, rfl, hJv_7, hRv_7⟩ := hp
    have hJ_10 : moK dT ah ah_3 mo AR q g q_8 g_9 := moK_t hJ0 hJv_7
    have hX := moX_k hJv_7 hX
    have hRg := moR_k hJv_7 hRg
    have hS := moS_k hJv_7 hS
    have hst : st_6 = [.int v_7] := hst
    subst hst
    refine lv_istore (lv' := [(4, .int v_7), (0, .ref mo), (1, .int (nI s9)), (2, .int sh9), (3, .int pt9)]) hx hb dX10_polygon_18 hl (by decide) rfl (fun ls hl => ?_)
    refine lv_iload hx hb dX10_polygon_20 (lv_at hl 0 rfl) ?_
    refine lv_if_ne (tgt := 34) hx hb dX10_polygon_22 (by decide) (fun c_11 => ?_) (fun c_11 => ?_)
    · skip
      refine lv_iload hx hb dX10_polygon_34 (lv_at hl 0 rfl) ?_
      refine lv_if_ne (tgt := 48) hx hb dX10_polygon_36 (by decide) (fun c_12 => ?_) (fun c_12 => ?_)
      · skip
        refine lv_iload hx hb dX10_polygon_48 (lv_at hl 0 rfl) ?_
        refine lv_if_ne (tgt := 63) hx hb dX10_polygon_50 (by decide) (fun c_13 => ?_) (fun c_13 => ?_)
        · skip
          refine lv_iload hx hb dX10_polygon_63 (lv_at hl 0 rfl) ?_
          rw [hQ]
          exact h_iret hx hb hr hlk hsz hw (by simp) (by simp) dX10_polygon_65 ⟨_, q_8, g_9, rfl, hJ_10, (by unfold poM; rw [if_neg c_1]; exact (moRs_a c_13 hRv_7))⟩
        · skip
          exfalso
          exact absurd c_13 c_12
      · skip
        exfalso
        exact absurd c_12 c_11
    · skip
      have hz_14 := moRs_0 hRv_7 c_11
      have hseg := rgO_seg hz_14.1
      refine lv_aload_n hx hb dX10_polygon_25 rfl (lv_at hl 1 rfl) ?_
      refine lv_iload_n hx hb dX10_polygon_26 rfl (lv_at hl 2 rfl) ?_
      refine lv_iload_n hx hb dX10_polygon_27 rfl (lv_at hl 3 rfl) ?_
      refine lv_iload_n hx hb dX10_polygon_28 rfl (lv_at hl 4 rfl) ?_
      refine h_callV (n := 3) (ci := 10) (b := mo) (As := [.int (nI s9), .int sh9, .int pt9]) (rest := []) ⟨hx, hb, hml, hown, hts⟩ hK hw (c_X10_pairsOf l D dT ah_3 H_4.size mo AR q_8 g_9 hJ_10.1 np X Y hX nr RP RN hRg ns FG RC PF PC KD WH PA hS pl hz_14.2 s9 (by omega) sh9 pt9) ko_X10_pairsOf km_X10_205 ki_X10_pairsOf ks_X10_pairsOf kn_X10 (by decide +kernel) rfl hJ_10.1.1 rfl hl.1 rfl (by simp [Value.category]) dX10_polygon_29 (by rw [hR]; exact ⟨rfl, rfl, Nat.le_of_ble_eq_true rfl, Nat.le_of_ble_eq_true rfl, by simp, by simp⟩) (fun r_15 ah_16 H_17 L_18 st_19 hp hw hst => ?_)
      obtain ⟨v_20, q_21, g_22, rfl, hJv_20, hRv_20⟩ := hp
      have hJ_23 : moK dT ah ah_16 mo AR q g q_21 g_22 := moK_t hJ_10 hJv_20
      have hX := moX_k hJv_20 hX
      have hRg := moR_k hJv_20 hRg
      have hS := moS_k hJv_20 hS
      have hst : st_19 = [.int v_20] := hst
      subst hst
      refine lv_istore (lv' := [(4, .int v_20), (0, .ref mo), (1, .int (nI s9)), (2, .int sh9), (3, .int pt9)]) hx hb dX10_polygon_32 hl (by decide) rfl (fun ls hl => ?_)
      refine lv_iload hx hb dX10_polygon_34 (lv_at hl 0 rfl) ?_
      refine lv_if_ne (tgt := 48) hx hb dX10_polygon_36 (by decide) (fun c_24 => ?_) (fun c_24 => ?_)
      · skip
        refine lv_iload hx hb dX10_polygon_48 (lv_at hl 0 rfl) ?_
        refine lv_if_ne (tgt := 63) hx hb dX10_polygon_50 (by decide) (fun c_25 => ?_) (fun c_25 => ?_)
        · skip
          refine lv_iload hx hb dX10_polygon_63 (lv_at hl 0 rfl) ?_
          rw [hQ]
          exact h_iret hx hb hr hlk hsz hw (by simp) (by simp) dX10_polygon_65 ⟨_, q_21, g_22, rfl, hJ_23, (by unfold poM; rw [if_neg c_1]; exact (moRs_o hz_14.1 (moRs_a c_25 hRv_20)))⟩
        · skip
          exfalso
          exact absurd c_25 c_24
      · skip
        have hz_26 := moRs_0 hRv_20 c_24
        refine lv_aload_n hx hb dX10_polygon_39 rfl (lv_at hl 1 rfl) ?_
        refine lv_iload_n hx hb dX10_polygon_40 rfl (lv_at hl 2 rfl) ?_
        refine lv_iload_n hx hb dX10_polygon_41 rfl (lv_at hl 3 rfl) ?_
        refine lv_iload_n hx hb dX10_polygon_42 rfl (lv_at hl 4 rfl) ?_
        refine h_callV (n := 3) (ci := 10) (b := mo) (As := [.int (nI s9), .int sh9, .int pt9]) (rest := []) ⟨hx, hb, hml, hown, hts⟩ hK hw (c_X10_holesOf l D dT ah_16 H_17.size mo AR q_21 g_22 hJ_23.1 np X Y hX nr RP RN hRg ns FG RC PF PC KD WH PA hS pl hz_26.2 s9 (by omega) sh9 pt9 hseg (by omega)) ko_X10_holesOf km_X10_208 ki_X10_holesOf ks_X10_holesOf kn_X10 (by decide +kernel) rfl hJ_23.1.1 rfl hl.1 rfl (by simp [Value.category]) dX10_polygon_43 (by rw [hR]; exact ⟨rfl, rfl, Nat.le_of_ble_eq_true rfl, Nat.le_of_ble_eq_true rfl, by simp, by simp⟩) (fun r_27 ah_28 H_29 L_30 st_31 hp hw hst => ?_)
        obtain ⟨v_32, q_33, g_34, rfl, hJv_32, hRv_32⟩ := hp
        have hJ_35 : moK dT ah ah_28 mo AR q g q_33 g_34 := moK_t hJ_23 hJv_32
        have hX := moX_k hJv_32 hX
        have hRg := moR_k hJv_32 hRg
        have hS := moS_k hJv_32 hS
        have hst : st_31 = [.int v_32] := hst
        subst hst
        refine lv_istore (lv' := [(4, .int v_32), (0, .ref mo), (1, .int (nI s9)), (2, .int sh9), (3, .int pt9)]) hx hb dX10_polygon_46 hl (by decide) rfl (fun ls hl => ?_)
        refine lv_iload hx hb dX10_polygon_48 (lv_at hl 0 rfl) ?_
        refine lv_if_ne (tgt := 63) hx hb dX10_polygon_50 (by decide) (fun c_36 => ?_) (fun c_36 => ?_)
        · skip
          refine lv_iload hx hb dX10_polygon_63 (lv_at hl 0 rfl) ?_
          rw [hQ]
          exact h_iret hx hb hr hlk hsz hw (by simp) (by simp) dX10_polygon_65 ⟨_, q_33, g_34, rfl, hJ_35, (by unfold poM; rw [if_neg c_1]; exact (moRs_o hz_14.1 (moRs_o hz_26.1 (moRs_a c_36 hRv_32))))⟩
        · skip
          have hz_37 := moRs_0 hRv_32 c_36
          refine lv_aload_n hx hb dX10_polygon_53 rfl (lv_at hl 1 rfl) ?_
          refine lv_iload_n hx hb dX10_polygon_54 rfl (lv_at hl 2 rfl) ?_
          refine lv_iload_n hx hb dX10_polygon_55 rfl (lv_at hl 3 rfl) ?_
          refine lv_iload_n hx hb dX10_polygon_56 rfl (lv_at hl 4 rfl) ?_
          refine h_callV (n := 3) (ci := 10) (b := mo) (As := [.int (nI s9), .int sh9, .int pt9]) (rest := []) ⟨hx, hb, hml, hown, hts⟩ hK hw (c_X10_splitOf l D dT ah_28 H_29.size mo AR q_33 g_34 hJ_35.1 np X Y hX nr RP RN hRg ns FG RC PF PC KD WH PA hS pl hz_37.2 s9 (by omega) sh9 pt9 (by omega)) ko_X10_splitOf km_X10_211 ki_X10_splitOf ks_X10_splitOf kn_X10 (by decide +kernel) rfl hJ_35.1.1 rfl hl.1 rfl (by simp [Value.category]) dX10_polygon_57 (by rw [hR]; exact ⟨rfl, rfl, Nat.le_of_ble_eq_true rfl, Nat.le_of_ble_eq_true rfl, by simp, by simp⟩) (fun r_38 ah_39 H_40 L_41 st_42 hp hw hst => ?_)
          obtain ⟨v_43, q_44, g_45, rfl, hJv_43, hRv_43⟩ := hp
          have hJ_46 : moK dT ah ah_39 mo AR q g q_44 g_45 := moK_t hJ_35 hJv_43
          have hX := moX_k hJv_43 hX
          have hRg := moR_k hJv_43 hRg
          have hS := moS_k hJv_43 hS
          have hst : st_42 = [.int v_43] := hst
          subst hst
          refine lv_goto (tgt := 65) hx hb dX10_polygon_60 (by decide) ?_
          rw [hQ]
          exact h_iret hx hb hr hlk hsz hw (by simp) (by simp) dX10_polygon_65 ⟨_, q_44, g_45, rfl, hJ_46, (by unfold poM; rw [if_neg c_1]; exact (moRs_o hz_14.1 (moRs_o hz_26.1 (moRs_o hz_37.1 hRv_43))))⟩
  · skip
    have c_1 : RC s9 = 0 := (nI_eqx (by rfl) (by decide) (by omega) (by omega)).mp c_1
    refine lv_iconst (v := 0) hx hb dX10_polygon_9 (by decide) ?_
    rw [hQ]
    exact h_iret hx hb hr hlk hsz hw (by simp) (by simp) dX10_polygon_10 ⟨_, q, g, rfl, hJ0, (by rw [show poM X Y RP RN (FG s9) (RC s9) sh9 pt9 pl = none from if_pos c_1]; exact ⟨rfl, hpl⟩)⟩

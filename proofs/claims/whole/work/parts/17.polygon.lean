/-! ShapeJudge$Polygon -/
/-- a ring's data: addresses (ring, box, array), room, count; part, number, different points; closed; box; array, segments, their boxes; what they hold -/
abbrev rgT : Type := (Nat → Nat) × (Nat → Int32) × Bool × (Nat → Int32) × (Nat → Option Nat) × (Nat → Nat) × (Nat → Nat) × (Nat → Nat → Int32)
def rgA (dT : Nat → ClassId) (ah : hA) (t : rgT) : Prop := rgAt dT ah (t.1 0) (t.1 1) (t.1 2) (t.1 3) (t.1 4) (t.2.1 0) (t.2.1 1) (t.2.1 2) t.2.2.1 t.2.2.2.1 t.2.2.2.2.1 t.2.2.2.2.2.1 t.2.2.2.2.2.2.1 t.2.2.2.2.2.2.2
def plA (dT : Nat → ClassId) (ah : hA) (pg ra nr : Nat) (pp : Int32) (FR : Nat → Option Nat) (RT : Nat → rgT) : Prop :=
  ah pg = some (.inr (4, [.int pp, .ref ra])) ∧ ah ra = some (.inl (dT 3, nr, .inr (.inr (.inr (.inr FR))))) ∧ nr ≤ 100000 ∧ ∀ i, i < nr → FR i = some ((RT i).1 0) ∧ rgA dT ah (RT i)
def rIn (t u : rgT) : Bool := rgIn (t.1 4) t.2.2.2.2.2.2.2 u.2.2.2.1 (u.1 4) u.2.2.2.2.2.2.2
def plIn (nr : Nat) (RT : Nat → rgT) (nr2 : Nat) (RT2 : Nat → rgT) : Bool :=
  if nr = 0 ∨ nr2 = 0 then false else rIn (RT 0) (RT2 0) && !anyB nr2 (fun j => decide (1 ≤ j) && rIn (RT 0) (RT2 j))
theorem plIn_0 {nr nr2 : Nat} {RT RT2 : Nat → rgT} (h : nr = 0 ∨ nr2 = 0) : plIn nr RT nr2 RT2 = false := if_pos h
theorem plIn_1 {nr nr2 : Nat} {RT RT2 : Nat → rgT} (h : rIn (RT 0) (RT2 0) = false) : plIn nr RT nr2 RT2 = false := by unfold plIn; simp [h]
theorem plIn_h {nr nr2 i : Nat} {RT RT2 : Nat → rgT} (h1 : 1 ≤ i) (hi : i < nr2) (h : rIn (RT 0) (RT2 i) = true) : plIn nr RT nr2 RT2 = false := by
  unfold plIn
  rw [anyB_t (f := fun j => decide (1 ≤ j) && rIn (RT 0) (RT2 j)) hi (by simp [h, h1])]
  simp
theorem plIn_t {nr nr2 : Nat} {RT RT2 : Nat → rgT} (h0 : ¬ nr = 0) (h2 : ¬ nr2 = 0) (h : rIn (RT 0) (RT2 0) = true) (hj : ∀ j, j < nr2 → (decide (1 ≤ j) && rIn (RT 0) (RT2 j)) = false) : plIn nr RT nr2 RT2 = true := by
  unfold plIn
  rw [anyB_f hj, if_neg (by omega), h]; rfl
def renF (f : Nat → Int32) (u v : Int32) (i : Nat) : Nat → Int32 := fun j => if j < i then (if f j = u then v else f j) else f j
theorem renF_0 {f : Nat → Int32} {u v : Int32} : renF f u v 0 = f := by funext j; simp [renF]
theorem renF_x {f : Nat → Int32} {u v : Int32} {i : Nat} (h : renF f u v i i = u) : renF f u v (i + 1) = upd (renF f u v i) i v := by
  have h' : f i = u := by simpa [renF] using h
  funext j
  simp only [renF, upd]
  by_cases e : j = i
  · subst e; simp [h']
  · simp only [if_neg e]
    by_cases h2 : j < i
    · simp [h2, Nat.lt_succ_of_lt h2]
    · simp [h2, show ¬ j < i + 1 by omega]
theorem renF_k {f : Nat → Int32} {u v : Int32} {i : Nat} (h : ¬ renF f u v i i = u) : renF f u v (i + 1) = renF f u v i := by
  have h' : ¬ f i = u := by simpa [renF] using h
  funext j
  simp only [renF]
  by_cases e : j = i
  · subst e; simp [h']
  · by_cases h2 : j < i
    · simp [h2, Nat.lt_succ_of_lt h2]
    · simp [h2, show ¬ j < i + 1 by omega]
def plHas (t : rgT) (x y : Int32) : Bool := bxHas (t.2.2.2.1 0) (t.2.2.2.1 1) (t.2.2.2.1 2) (t.2.2.2.1 3) x y && rgCorner (t.1 4) t.2.2.2.2.2.2.2 x y
theorem plHas_1 {t : rgT} {x y : Int32} (h : bxHas (t.2.2.2.1 0) (t.2.2.2.1 1) (t.2.2.2.1 2) (t.2.2.2.1 3) x y = false) : plHas t x y = false := by simp [plHas, h]
theorem plHas_2 {t : rgT} {x y : Int32} (_ : ¬ bxHas (t.2.2.2.1 0) (t.2.2.2.1 1) (t.2.2.2.1 2) (t.2.2.2.1 3) x y = false) (h : rgCorner (t.1 4) t.2.2.2.2.2.2.2 x y = false) : plHas t x y = false := by simp [plHas, h]
theorem plHas_t {t : rgT} {x y : Int32} (h1 : ¬ bxHas (t.2.2.2.1 0) (t.2.2.2.1 1) (t.2.2.2.1 2) (t.2.2.2.1 3) x y = false) (h : ¬ rgCorner (t.1 4) t.2.2.2.2.2.2.2 x y = false) : plHas t x y = true := by simp [plHas, nF h1, nF h]
/-- no ring before the k-th one has a corner there -/
def plNew (k nr : Nat) (RT : Nat → rgT) (x y : Int32) : Bool := !anyB (min k nr) (fun j => plHas (RT j) x y)
theorem plNew_f {k nr i : Nat} {RT : Nat → rgT} {x y : Int32} (h1 : i < k) (h2 : i < nr) (h : plHas (RT i) x y = true) : plNew k nr RT x y = false := by unfold plNew; rw [anyB_t (f := fun j => plHas (RT j) x y) (i := i) (by omega) h]; rfl
theorem plNew_t {k nr : Nat} {RT : Nat → rgT} {x y : Int32} (h : ∀ j, j < k → j < nr → plHas (RT j) x y = false) : plNew k nr RT x y = true := by unfold plNew; rw [anyB_f (fun j hj => h j (by omega) (by omega))]; rfl
theorem rgAt_up {dT : Nat → ClassId} {ah : hA} {rg bx sa cap n : Nat} {pt rn df : Int32} {cl : Bool} {bb : Nat → Int32} {F : Nat → Option Nat} {G B : Nat → Nat} {S : Nat → Nat → Int32} {ah' : hA} (hk : ∀ a e, ah a = some e → (∀ n9 f9, e ≠ .inl (dT 0, n9, .inl f9)) → ah' a = some e)
    (h : rgAt dT ah rg bx sa cap n pt rn df cl bb F G B S) : rgAt dT ah' rg bx sa cap n pt rn df cl bb F G B S := by
  obtain ⟨h1, h2, h3, h4, h5, h6⟩ := h
  refine ⟨hk _ _ h1 (by simp), hk _ _ h2 (by simp), hk _ _ h3 (by simp), h4, h5, fun i hi => ?_⟩
  obtain ⟨g1, g2, g3⟩ := h6 i hi
  exact ⟨g1, hk _ _ g2 (by simp), hk _ _ g3 (by simp)⟩
theorem plA_k {dT : Nat → ClassId} {ah ah' : hA} {pg ra nr : Nat} {pp : Int32} {FR : Nat → Option Nat} {RT : Nat → rgT} (hk : ∀ a e, ah a = some e → (∀ n9 f9, e ≠ .inl (dT 0, n9, .inl f9)) → ah' a = some e) (h : plA dT ah pg ra nr pp FR RT) : plA dT ah' pg ra nr pp FR RT := by
  obtain ⟨h1, h2, h3, h4⟩ := h
  exact ⟨hk _ _ h1 (by simp), hk _ _ h2 (by simp), h3, fun i hi => ⟨(h4 i hi).1, rgAt_up hk (h4 i hi).2⟩⟩
theorem plA_up {dT : Nat → ClassId} {ah : hA} {pg ra nr : Nat} {pp : Int32} {FR : Nat → Option Nat} {RT : Nat → rgT} {a n : Nat} {f f' : Nat → Int32} (ha : ah a = some (.inl (dT 0, n, .inl f))) (h : plA dT ah pg ra nr pp FR RT) : plA dT (hup ah a (.inl (dT 0, n, .inl f'))) pg ra nr pp FR RT :=
  plA_k (fun b e hb he => (hup_n (h_ne hb ha (he n f))).trans hb) h
theorem plA_new {dT : Nat → ClassId} {ah : hA} {pg ra nr : Nat} {pp : Int32} {FR : Nat → Option Nat} {RT : Nat → rgT} {a : Nat} {e : va_E} (ha : ah a = none) (h : plA dT ah pg ra nr pp FR RT) : plA dT (hup ah a e) pg ra nr pp FR RT :=
  plA_k (fun b e hb _ => (hup_n (h_fr hb ha)).trans hb) h
def plP (t : rgT) (x y : Int32) : Bool := rgPasses t.2.2.2.1 (t.1 4) t.2.2.2.2.2.2.2 x y
/-- the joining of groups at one point, up to the i-th ring: none once it goes round -/
def jrS (P : Nat → Bool) (n : Nat) (f : Nat → Int32) : Nat → Option (Int32 × (Nat → Int32))
  | 0 => some (-1, f)
  | i + 1 => match jrS P n f i with
    | none => none
    | some q => if P i = false then some q else if q.1 = -1 then some (q.2 i, q.2) else if q.2 i = q.1 then none else some (q.1, renF q.2 (q.2 i) q.1 n)
theorem jr_k {P : Nat → Bool} {n i : Nat} {f h : Nat → Int32} {g : Int32} (hj : jrS P n f i = some (g, h)) (hp : P i = false) : jrS P n f (i + 1) = some (g, h) := by simp [jrS, hj, hp]
theorem jr_f {P : Nat → Bool} {n i : Nat} {f h : Nat → Int32} {g : Int32} (hj : jrS P n f i = some (g, h)) (hp : ¬ P i = false) (hg : g = -1) : jrS P n f (i + 1) = some (h i, h) := by simp [jrS, hj, nF hp, hg]
theorem jr_x {P : Nat → Bool} {n i : Nat} {f h : Nat → Int32} {g : Int32} (hj : jrS P n f i = some (g, h)) (hp : ¬ P i = false) (hg : ¬ g = -1) (he : h i = g) : jrS P n f (i + 1) = none := by simp [jrS, hj, nF hp, hg, he]
theorem jr_r {P : Nat → Bool} {n i : Nat} {f h : Nat → Int32} {g : Int32} (hj : jrS P n f i = some (g, h)) (hp : ¬ P i = false) (hg : ¬ g = -1) (he : ¬ h i = g) : jrS P n f (i + 1) = some (g, renF h (h i) g n) := by simp [jrS, hj, nF hp, hg, he]
theorem jr_n {P : Nat → Bool} {n i m : Nat} {f : Nat → Int32} (h : i < m) (hj : jrS P n f (i + 1) = none) : jrS P n f m = none := by
  induction m with
  | zero => omega
  | succ m ih =>
    by_cases e : i = m
    · subst e; exact hj
    · simp [jrS, ih (by omega)]
def idF (i : Nat) : Nat → Int32 := fun j => if j < i then nI j else 0
theorem idF_0 : idF 0 = fun _ => 0 := by funext j; simp [idF]
theorem idF_s {i : Nat} : idF (i + 1) = upd (idF i) i (nI i) := by
  funext j
  simp only [idF, upd]
  by_cases e : j = i
  · subst e; simp
  · simp only [if_neg e]
    by_cases h2 : j < i
    · simp [h2, Nat.lt_succ_of_lt h2]
    · simp [h2, show ¬ j < i + 1 by omega]
/-- one corner: the k-th segment's beginning of the i-th ring -/
def spC (RT : Nat → rgT) (nr i k : Nat) (h : Nat → Int32) : Option (Nat → Int32) :=
  if plNew i nr RT ((RT i).2.2.2.2.2.2.2 k 1) ((RT i).2.2.2.2.2.2.2 k 2) = false then some h else (jrS (fun j => plP (RT j) ((RT i).2.2.2.2.2.2.2 k 1) ((RT i).2.2.2.2.2.2.2 k 2)) nr h nr).map (·.2)
def inS (RT : Nat → rgT) (nr i : Nat) (h : Nat → Int32) : Nat → Option (Nat → Int32)
  | 0 => some h
  | k + 1 => (inS RT nr i h k).bind (spC RT nr i k)
def outS (RT : Nat → rgT) (nr : Nat) : Nat → Option (Nat → Int32)
  | 0 => some (idF nr)
  | i + 1 => (outS RT nr i).bind (fun h => inS RT nr i h ((RT i).1 4))
def plSplit (nr : Nat) (RT : Nat → rgT) : Bool := (outS RT nr nr).isNone
theorem in_k {RT : Nat → rgT} {nr i k : Nat} {h h3 : Nat → Int32} (hn : inS RT nr i h k = some h3) (hc : plNew i nr RT ((RT i).2.2.2.2.2.2.2 k 1) ((RT i).2.2.2.2.2.2.2 k 2) = false) : inS RT nr i h (k + 1) = some h3 := by simp [inS, hn, spC, hc]
theorem in_j {RT : Nat → rgT} {nr i k : Nat} {h h3 h4 : Nat → Int32} (hn : inS RT nr i h k = some h3) (hc : ¬ plNew i nr RT ((RT i).2.2.2.2.2.2.2 k 1) ((RT i).2.2.2.2.2.2.2 k 2) = false) (hj : ∃ g9, jrS (fun j => plP (RT j) ((RT i).2.2.2.2.2.2.2 k 1) ((RT i).2.2.2.2.2.2.2 k 2)) nr h3 nr = some (g9, h4)) : inS RT nr i h (k + 1) = some h4 := by
  obtain ⟨g9, hj⟩ := hj
  simp [inS, hn, spC, nF hc, hj]
theorem in_x {RT : Nat → rgT} {nr i k : Nat} {h h3 : Nat → Int32} (hn : inS RT nr i h k = some h3) (hc : ¬ plNew i nr RT ((RT i).2.2.2.2.2.2.2 k 1) ((RT i).2.2.2.2.2.2.2 k 2) = false) (hj : jrS (fun j => plP (RT j) ((RT i).2.2.2.2.2.2.2 k 1) ((RT i).2.2.2.2.2.2.2 k 2)) nr h3 nr = none) : inS RT nr i h (k + 1) = none := by simp [inS, hn, spC, nF hc, hj]
theorem in_none {RT : Nat → rgT} {nr i k m : Nat} {h : Nat → Int32} (hk : k < m) (hn : inS RT nr i h (k + 1) = none) : inS RT nr i h m = none := by
  induction m with
  | zero => omega
  | succ m ih =>
    by_cases e : k = m
    · subst e; exact hn
    · simp [inS, ih (by omega)]
theorem out_s {RT : Nat → rgT} {nr i : Nat} {h h3 : Nat → Int32} (ho : outS RT nr i = some h) (hn : inS RT nr i h ((RT i).1 4) = some h3) : outS RT nr (i + 1) = some h3 := by simp [outS, ho, hn]
theorem out_n {RT : Nat → rgT} {nr i : Nat} {h : Nat → Int32} (ho : outS RT nr i = some h) (hn : inS RT nr i h ((RT i).1 4) = none) : outS RT nr (i + 1) = none := by simp [outS, ho, hn]
theorem outS_none {RT : Nat → rgT} {nr i m : Nat} (hk : i < m) (hn : outS RT nr (i + 1) = none) : outS RT nr m = none := by
  induction m with
  | zero => omega
  | succ m ih =>
    by_cases e : i = m
    · subst e; exact hn
    · simp [outS, ih (by omega)]
theorem spl_t {RT : Nat → rgT} {nr : Nat} (h : outS RT nr nr = none) : true = plSplit nr RT := by simp [plSplit, h]
theorem spl_f {RT : Nat → rgT} {nr : Nat} {h : Nat → Int32} (ho : outS RT nr nr = some h) : false = plSplit nr RT := by simp [plSplit, ho]
set_option maxHeartbeats 4000000 in
set_option maxRecDepth 100000 in
theorem c_X4_init (l : Launch) (D : va_G) (dT : Nat → ClassId) (ah : hA) (sz : Nat) (pg ra : Nat) (pp : Int32) (hpg : ah pg = some (.inr (4, [.int 0, .null]))) : hMet l yX4_init cX4_init 3 none ({ frames := 1, cells := 0, slots := 0, locals := 20 }) D dT [.ref pg, .int pp, .ref ra] ah sz (fun r ah2 => r = none ∧ ah2 = hup ah pg (.inr (4, [.int pp, .ref ra]))) 0 0 := by
  refine h_met (by decide) (Nat.le_of_ble_eq_true rfl) ?_
  intro p e s m below meth c ls R Q args hav hR hQ hB hl hsz hw
  obtain ⟨hx, hb, hml, hr, hts, hown, hlk, hin, hK⟩ := hB
  have hown : s.vm.findClass RX4 = some m.cls := hown
  have hl : lv_has ls 3 [(0, .ref pg), (1, .int pp), (2, .ref ra)] := hl
  refine lv_aload_n hx hb dX4_init_0 rfl (lv_at hl 0 rfl) ?_
  refine W.objInit hx hb hown (hts _ km_X4_3) (hts _ ki_obj) (hts _ ko_obj) rfl (by rw [hml]; exact hl.1) rfl dX4_init_1 (by rw [hR]; exact Nat.le_of_ble_eq_true rfl) (by rw [hR]; exact Nat.le_of_ble_eq_true rfl) ?_
  refine W.eq (g2 := F0 m 4 ls []) rfl ?_
  refine lv_aload_n hx hb dX4_init_4 rfl (lv_at hl 0 rfl) ?_
  refine lv_iload_n hx hb dX4_init_5 rfl (lv_at hl 1 rfl) ?_
  refine h_putF (ci := 4) (v := .int pp) (C := RX4) (T := TX4) (N := 2) hx hb hts kl_X4 tyX4 tyX4_ok nmX4 hown hK hw hpg rfl 0 (by decide) (hts _ kf_X4_9) rfl rfl hin rfl (tyX4_ok 0 (by decide)) rfl rfl (Nat.le_of_ble_eq_true rfl) dX4_init_6 (fun H_1 L_2 hw => ?_)
  obtain ⟨ah_3, eah_3⟩ : ∃ z9 : hA, z9 = hup ah pg (.inr (4, [.int pp, .null])) := ⟨_, rfl⟩
  have hw : hW D ah s.heap ah_3 H_1 L_2 := by rw [eah_3]; exact hw
  have hc_4 : ah_3 pg = some (.inr (4, [.int pp, .null])) := by rw [eah_3]; exact hup_s
  refine lv_aload_n hx hb dX4_init_9 rfl (lv_at hl 0 rfl) ?_
  refine lv_aload_n hx hb dX4_init_10 rfl (lv_at hl 2 rfl) ?_
  refine h_putF (ci := 4) (v := .ref ra) (C := RX4) (T := TX4) (N := 2) hx hb hts kl_X4 tyX4 tyX4_ok nmX4 hown hK hw hc_4 rfl 1 (by decide) (hts _ kf_X4_15) rfl rfl hin rfl (tyX4_ok 1 (by decide)) rfl rfl (Nat.le_of_ble_eq_true rfl) dX4_init_11 (fun H_5 L_6 hw => ?_)
  obtain ⟨ah_7, eah_7⟩ : ∃ z9 : hA, z9 = hup ah_3 pg (.inr (4, [.int pp, .ref ra])) := ⟨_, rfl⟩
  have hw : hW D ah s.heap ah_7 H_5 L_6 := by rw [eah_7]; exact hw
  have hc_8 : ah_7 pg = some (.inr (4, [.int pp, .ref ra])) := by rw [eah_7]; exact hup_s
  rw [hQ]
  exact h_vret hx hb hr hlk hsz hw (by simp) (by simp) dX4_init_14 ⟨rfl, by subst_vars; simp only [hup_hup]⟩

set_option maxHeartbeats 4000000 in
set_option maxRecDepth 100000 in
theorem c_X4_isInside (l : Launch) (D : va_G) (dT : Nat → ClassId) (ah : hA) (sz : Nat) (pg ra nr : Nat) (pp : Int32) (FR : Nat → Option Nat) (RT : Nat → rgT) (hp9 : plA dT ah pg ra nr pp FR RT) (pg2 ra2 nr2 : Nat) (pp2 : Int32) (FR2 : Nat → Option Nat) (RT2 : Nat → rgT) (hp29 : plA dT ah pg2 ra2 nr2 pp2 FR2 RT2) : hMet l yX4_isInside cX4_isInside 3 (some .boolean) ({ frames := 4, cells := 0, slots := 0, locals := 103 }) D dT [.ref pg, .ref pg2] ah sz (fun r ah2 => r = some (.int (bI (plIn nr RT nr2 RT2))) ∧ ah = ah2) 0 0 := by
  refine h_met (by decide) (Nat.le_of_ble_eq_true rfl) ?_
  intro p e s m below meth c ls R Q args hav hR hQ hB hl hsz hw
  obtain ⟨hx, hb, hml, hr, hts, hown, hlk, hin, hK⟩ := hB
  have hown : s.vm.findClass RX4 = some m.cls := hown
  have hl : lv_has ls 3 [(0, .ref pg), (1, .ref pg2)] := hl
  obtain ⟨hpg, hra, hnr, hpl⟩ := hp9
  obtain ⟨hpg2, hra2, hnr2, hpl2⟩ := hp29
  refine lv_aload_n hx hb dX4_isInside_0 rfl (lv_at hl 0 rfl) ?_
  refine h_get (ci := 4) (v := .ref ra) (C := RX4) (T := TX4) (N := 2) hx hb hts kl_X4 hown hK hw hpg rfl 1 (by decide) (hts _ kf_X4_15) rfl rfl dX4_isInside_1 ?_
  refine h_alen hx hb hK hw 3 rfl hra dX4_isInside_4 ?_
  refine lv_if_eq (tgt := 16) hx hb dX4_isInside_5 (by decide) (fun c_1 => ?_) (fun c_1 => ?_)
  · skip
    have c_1 : nr = 0 := (nI_eqx (by rfl) (by decide) (by omega) (by omega)).mp c_1
    refine lv_iconst (v := 0) hx hb dX4_isInside_16 (by decide) ?_
    rw [hQ]
    exact h_zret hx hb hr hlk hsz hw (by simp) (by simp) dX4_isInside_17 (by decide) ⟨congrArg (fun z => some (Value.int (bI z))) (a₁ := false) (plIn_0 (by omega)).symm, rfl⟩
  · skip
    have c_1 : ¬ (nr = 0) := (not_congr (nI_eqx (by rfl) (by decide) (by omega) (by omega))).mp c_1
    refine lv_aload_n hx hb dX4_isInside_8 rfl (lv_at hl 1 rfl) ?_
    refine h_get (ci := 4) (v := .ref ra2) (C := RX4) (T := TX4) (N := 2) hx hb hts kl_X4 hown hK hw hpg2 rfl 1 (by decide) (hts _ kf_X4_15) rfl rfl dX4_isInside_9 ?_
    refine h_alen hx hb hK hw 3 rfl hra2 dX4_isInside_12 ?_
    refine lv_if_ne (tgt := 18) hx hb dX4_isInside_13 (by decide) (fun c_2 => ?_) (fun c_2 => ?_)
    · skip
      have c_2 : ¬ (nr2 = 0) := (not_congr (nI_eqx (by rfl) (by decide) (by omega) (by omega))).mp c_2
      refine lv_aload_n hx hb dX4_isInside_18 rfl (lv_at hl 0 rfl) ?_
      refine h_get (ci := 4) (v := .ref ra) (C := RX4) (T := TX4) (N := 2) hx hb hts kl_X4 hown hK hw hpg rfl 1 (by decide) (hts _ kf_X4_15) rfl rfl dX4_isInside_19 ?_
      refine lv_iconst (v := 0) hx hb dX4_isInside_22 (by decide) ?_
      obtain ⟨hr_3_f, hr_3_g⟩ := hpl 0 (by omega)
      have hr_3_g : rgAt dT ah ((RT 0).1 0) ((RT 0).1 1) ((RT 0).1 2) ((RT 0).1 3) ((RT 0).1 4) ((RT 0).2.1 0) ((RT 0).2.1 1) ((RT 0).2.1 2) ((RT 0).2.2.1) ((RT 0).2.2.2.1) ((RT 0).2.2.2.2.1) ((RT 0).2.2.2.2.2.1) ((RT 0).2.2.2.2.2.2.1) ((RT 0).2.2.2.2.2.2.2) := hr_3_g
      refine h_aald hx hb hK hw 3 rfl hra 0 (by decide) (by omega) (by omega) hr_3_f dX4_isInside_23 ?_
      refine lv_aload_n hx hb dX4_isInside_24 rfl (lv_at hl 1 rfl) ?_
      refine h_get (ci := 4) (v := .ref ra2) (C := RX4) (T := TX4) (N := 2) hx hb hts kl_X4 hown hK hw hpg2 rfl 1 (by decide) (hts _ kf_X4_15) rfl rfl dX4_isInside_25 ?_
      refine lv_iconst (v := 0) hx hb dX4_isInside_28 (by decide) ?_
      obtain ⟨hr_4_f, hr_4_g⟩ := hpl2 0 (by omega)
      have hr_4_g : rgAt dT ah ((RT2 0).1 0) ((RT2 0).1 1) ((RT2 0).1 2) ((RT2 0).1 3) ((RT2 0).1 4) ((RT2 0).2.1 0) ((RT2 0).2.1 1) ((RT2 0).2.1 2) ((RT2 0).2.2.1) ((RT2 0).2.2.2.1) ((RT2 0).2.2.2.2.1) ((RT2 0).2.2.2.2.2.1) ((RT2 0).2.2.2.2.2.2.1) ((RT2 0).2.2.2.2.2.2.2) := hr_4_g
      refine h_aald hx hb hK hw 3 rfl hra2 0 (by decide) (by omega) (by omega) hr_4_f dX4_isInside_29 ?_
      refine h_callV (n := 1) (ci := 5) (b := ((RT 0).1 0)) (As := [.ref ((RT2 0).1 0)]) (rest := []) ⟨hx, hb, hml, hown, hts⟩ hK hw (c_X5_liesIn l D dT ah s.heap.size ((RT 0).1 0) ((RT 0).1 1) ((RT 0).1 2) ((RT 0).1 3) ((RT 0).1 4) ((RT 0).2.1 0) ((RT 0).2.1 1) ((RT 0).2.1 2) ((RT 0).2.2.1) ((RT 0).2.2.2.1) ((RT 0).2.2.2.2.1) ((RT 0).2.2.2.2.2.1) ((RT 0).2.2.2.2.2.2.1) ((RT 0).2.2.2.2.2.2.2) hr_3_g ((RT2 0).1 0) ((RT2 0).1 1) ((RT2 0).1 2) ((RT2 0).1 3) ((RT2 0).1 4) ((RT2 0).2.1 0) ((RT2 0).2.1 1) ((RT2 0).2.1 2) ((RT2 0).2.2.1) ((RT2 0).2.2.2.1) ((RT2 0).2.2.2.2.1) ((RT2 0).2.2.2.2.2.1) ((RT2 0).2.2.2.2.2.2.1) ((RT2 0).2.2.2.2.2.2.2) hr_4_g) ko_X5_liesIn km_X4_19 ki_X5_liesIn ks_X5_liesIn kn_X5 (by decide +kernel) rfl hr_3_g.1 rfl hl.1 rfl (by simp [Value.category]) dX4_isInside_30 (by rw [hR]; exact ⟨rfl, rfl, Nat.le_of_ble_eq_true rfl, Nat.le_of_ble_eq_true rfl, by simp, by simp⟩) (fun r_5 ah_6 H_7 L_8 st_9 hp hw hst => ?_)
      obtain ⟨rfl, rfl⟩ := hp
      have hst : st_9 = [.int (bI (rIn (RT 0) (RT2 0)))] := hst
      subst hst
      refine lv_if_ne (tgt := 38) hx hb dX4_isInside_33 (by decide) (fun c_10 => ?_) (fun c_10 => ?_)
      · skip
        have c_10 : ¬ (rIn (RT 0) (RT2 0) = false) := (not_congr bI_0).mp c_10
        refine lv_iconst (v := 1) hx hb dX4_isInside_38 (by decide) ?_
        refine lv_istore_n (lv' := [(2, .int 1), (0, .ref pg), (1, .ref pg2)]) hx hb dX4_isInside_39 rfl hl (by decide) rfl (fun ls hl => ?_)
        have LP40 : ∀ (k40 : Nat) (i : Nat) (ls : Array Slot) (H40 : Heap) (L40 : List Loc), (nr2 + 1 - i < k40) → (1 ≤ i ∧ (i ≤ nr2 ∨ i = 1)) → (∀ j, j < i → (decide (1 ≤ j) && rIn (RT 0) (RT2 j)) = false) → lv_has ls 3 [(2, .int (nI i)), (0, .ref pg), (1, .ref pg2)] → hW D ah s.heap ah H40 L40 → W p l e R s m args below meth c H40 L40 (0 + 0) (0 + 0) Q (F0 m 40 ls []) := by
          intro k40
          induction k40 with
          | zero => intro i ls H40 L40 hk; exact absurd hk (Nat.not_lt_zero _)
          | succ k40 ih40 =>
            intro i ls H40 L40 hk40 hi hpv hl hw
            refine lv_iload_n hx hb dX4_isInside_40 rfl (lv_at hl 0 rfl) ?_
            refine lv_aload_n hx hb dX4_isInside_41 rfl (lv_at hl 2 rfl) ?_
            refine h_get (ci := 4) (v := .ref ra2) (C := RX4) (T := TX4) (N := 2) hx hb hts kl_X4 hown hK hw hpg2 rfl 1 (by decide) (hts _ kf_X4_15) rfl rfl dX4_isInside_42 ?_
            refine h_alen hx hb hK hw 3 rfl hra2 dX4_isInside_45 ?_
            refine lv_icmp_ge (tgt := 75) hx hb dX4_isInside_46 (by decide) (fun c_11 => ?_) (fun c_11 => ?_)
            · skip
              have c_11 : nr2 ≤ i := (nI_lex (by rfl) (by rfl) (by omega) (by omega)).mp c_11
              refine lv_iconst (v := 1) hx hb dX4_isInside_75 (by decide) ?_
              rw [hQ]
              exact h_zret hx hb hr hlk hsz hw (by simp) (by simp) dX4_isInside_76 (by decide) ⟨congrArg (fun z => some (Value.int (bI z))) (a₁ := true) (plIn_t c_1 c_2 (nF c_10) (fun j hj => hpv j (by omega))).symm, rfl⟩
            · skip
              have c_11 : ¬ (nr2 ≤ i) := (not_congr (nI_lex (by rfl) (by rfl) (by omega) (by omega))).mp c_11
              refine lv_aload_n hx hb dX4_isInside_49 rfl (lv_at hl 1 rfl) ?_
              refine h_get (ci := 4) (v := .ref ra) (C := RX4) (T := TX4) (N := 2) hx hb hts kl_X4 hown hK hw hpg rfl 1 (by decide) (hts _ kf_X4_15) rfl rfl dX4_isInside_50 ?_
              refine lv_iconst (v := 0) hx hb dX4_isInside_53 (by decide) ?_
              obtain ⟨hr_12_f, hr_12_g⟩ := hpl 0 (by omega)
              have hr_12_g : rgAt dT ah ((RT 0).1 0) ((RT 0).1 1) ((RT 0).1 2) ((RT 0).1 3) ((RT 0).1 4) ((RT 0).2.1 0) ((RT 0).2.1 1) ((RT 0).2.1 2) ((RT 0).2.2.1) ((RT 0).2.2.2.1) ((RT 0).2.2.2.2.1) ((RT 0).2.2.2.2.2.1) ((RT 0).2.2.2.2.2.2.1) ((RT 0).2.2.2.2.2.2.2) := hr_12_g
              refine h_aald hx hb hK hw 3 rfl hra 0 (by decide) (by omega) (by omega) hr_12_f dX4_isInside_54 ?_
              refine lv_aload_n hx hb dX4_isInside_55 rfl (lv_at hl 2 rfl) ?_
              refine h_get (ci := 4) (v := .ref ra2) (C := RX4) (T := TX4) (N := 2) hx hb hts kl_X4 hown hK hw hpg2 rfl 1 (by decide) (hts _ kf_X4_15) rfl rfl dX4_isInside_56 ?_
              refine lv_iload_n hx hb dX4_isInside_59 rfl (lv_at hl 0 rfl) ?_
              obtain ⟨hr_13_f, hr_13_g⟩ := hpl2 i (by omega)
              have hr_13_g : rgAt dT ah ((RT2 i).1 0) ((RT2 i).1 1) ((RT2 i).1 2) ((RT2 i).1 3) ((RT2 i).1 4) ((RT2 i).2.1 0) ((RT2 i).2.1 1) ((RT2 i).2.1 2) ((RT2 i).2.2.1) ((RT2 i).2.2.2.1) ((RT2 i).2.2.2.2.1) ((RT2 i).2.2.2.2.2.1) ((RT2 i).2.2.2.2.2.2.1) ((RT2 i).2.2.2.2.2.2.2) := hr_13_g
              refine h_aald hx hb hK hw 3 rfl hra2 i rfl (by omega) (by omega) hr_13_f dX4_isInside_60 ?_
              refine h_callV (n := 1) (ci := 5) (b := ((RT 0).1 0)) (As := [.ref ((RT2 i).1 0)]) (rest := []) ⟨hx, hb, hml, hown, hts⟩ hK hw (c_X5_liesIn l D dT ah H40.size ((RT 0).1 0) ((RT 0).1 1) ((RT 0).1 2) ((RT 0).1 3) ((RT 0).1 4) ((RT 0).2.1 0) ((RT 0).2.1 1) ((RT 0).2.1 2) ((RT 0).2.2.1) ((RT 0).2.2.2.1) ((RT 0).2.2.2.2.1) ((RT 0).2.2.2.2.2.1) ((RT 0).2.2.2.2.2.2.1) ((RT 0).2.2.2.2.2.2.2) hr_12_g ((RT2 i).1 0) ((RT2 i).1 1) ((RT2 i).1 2) ((RT2 i).1 3) ((RT2 i).1 4) ((RT2 i).2.1 0) ((RT2 i).2.1 1) ((RT2 i).2.1 2) ((RT2 i).2.2.1) ((RT2 i).2.2.2.1) ((RT2 i).2.2.2.2.1) ((RT2 i).2.2.2.2.2.1) ((RT2 i).2.2.2.2.2.2.1) ((RT2 i).2.2.2.2.2.2.2) hr_13_g) ko_X5_liesIn km_X4_19 ki_X5_liesIn ks_X5_liesIn kn_X5 (by decide +kernel) rfl hr_12_g.1 rfl hl.1 rfl (by simp [Value.category]) dX4_isInside_61 (by rw [hR]; exact ⟨rfl, rfl, Nat.le_of_ble_eq_true rfl, Nat.le_of_ble_eq_true rfl, by simp, by simp⟩) (fun r_14 ah_15 H_16 L_17 st_18 hp hw hst => ?_)
              obtain ⟨rfl, rfl⟩ := hp
              have hst : st_18 = [.int (bI (rIn (RT 0) (RT2 i)))] := hst
              subst hst
              refine lv_if_eq (tgt := 69) hx hb dX4_isInside_64 (by decide) (fun c_19 => ?_) (fun c_19 => ?_)
              · skip
                have c_19 : rIn (RT 0) (RT2 i) = false := bI_0.mp c_19
                refine lv_iinc (v := nI (i + 1)) (lv' := [(2, .int (nI (i + 1))), (0, .ref pg), (1, .ref pg2)]) hx hb dX4_isInside_69 hl (k := 0) rfl (nI_c _ 1) (by decide) rfl (fun ls hl => ?_)
                refine lv_goto (tgt := 40) hx hb dX4_isInside_72 (by decide) ?_
                refine W.widen (k := 0 + 0) (n := 0 + 0) (by omega) (by omega) ?_
                exact ih40 (i + 1) ls _ _ (by omega) (by omega) (lt_s hpv (by simp [c_19])) (lv_sub hl [0, 1, 2] rfl) hw
              · skip
                have c_19 : ¬ (rIn (RT 0) (RT2 i) = false) := (not_congr bI_0).mp c_19
                refine lv_iconst (v := 0) hx hb dX4_isInside_67 (by decide) ?_
                rw [hQ]
                exact h_zret hx hb hr hlk hsz hw (by simp) (by simp) dX4_isInside_68 (by decide) ⟨congrArg (fun z => some (Value.int (bI z))) (a₁ := false) (plIn_h (i := i) (by omega) (by omega) (nF c_19)).symm, rfl⟩
        exact LP40 ((nr2 + 1 - 1) + 1) 1 ls _ _ (Nat.lt_succ_self _) (by omega) (fun j hj => by rw [show j = 0 by omega]; rfl) (lv_sub hl [0, 1, 2] rfl) hw
      · skip
        have c_10 : rIn (RT 0) (RT2 0) = false := bI_0.mp c_10
        refine lv_iconst (v := 0) hx hb dX4_isInside_36 (by decide) ?_
        rw [hQ]
        exact h_zret hx hb hr hlk hsz hw (by simp) (by simp) dX4_isInside_37 (by decide) ⟨congrArg (fun z => some (Value.int (bI z))) (a₁ := false) (plIn_1 c_10).symm, rfl⟩
    · skip
      have c_2 : nr2 = 0 := (nI_eqx (by rfl) (by decide) (by omega) (by omega)).mp c_2
      refine lv_iconst (v := 0) hx hb dX4_isInside_16 (by decide) ?_
      rw [hQ]
      exact h_zret hx hb hr hlk hsz hw (by simp) (by simp) dX4_isInside_17 (by decide) ⟨congrArg (fun z => some (Value.int (bI z))) (a₁ := false) (plIn_0 (by omega)).symm, rfl⟩

set_option maxHeartbeats 4000000 in
set_option maxRecDepth 100000 in
theorem c_X4_renameGroup (l : Launch) (D : va_G) (dT : Nat → ClassId) (ah : hA) (sz : Nat) (a n : Nat) (f : Nat → Int32) (u v : Int32) (hn : n < 2 ^ 31) (hea : ah a = some (.inl (dT 0, n, .inl f))) : hMet l yX4_renameGroup cX4_renameGroup 4 none ({ frames := 0, cells := 0, slots := 0, locals := 0 }) D dT [.ref a, .int u, .int v] ah sz (fun r ah2 => r = none ∧ ah2 = hup ah a (.inl (dT 0, n, .inl (renF f u v n)))) 0 0 := by
  refine h_met (by decide) (Nat.le_of_ble_eq_true rfl) ?_
  intro p e s m below meth c ls R Q args hav hR hQ hB hl hsz hw
  obtain ⟨hx, hb, hml, hr, hts, hown, hlk, hin, hK⟩ := hB
  have hown : s.vm.findClass RX4 = some m.cls := hown
  have hl : lv_has ls 4 [(0, .ref a), (1, .int u), (2, .int v)] := hl
  refine lv_iconst (v := 0) hx hb dX4_renameGroup_0 (by decide) ?_
  refine lv_istore_n (lv' := [(3, .int 0), (0, .ref a), (1, .int u), (2, .int v)]) hx hb dX4_renameGroup_1 rfl hl (by decide) rfl (fun ls hl => ?_)
  have LP2 : ∀ (k2 : Nat) (i : Nat) (ah2 : hA) (ls : Array Slot) (H2 : Heap) (L2 : List Loc), (n - i < k2) → (ah2 a = some (.inl (dT 0, n, .inl (renF f u v i)))) → (i ≤ n) → (ah2 = hup ah a (.inl (dT 0, n, .inl (renF f u v i)))) → lv_has ls 4 [(3, .int (nI i)), (0, .ref a), (1, .int u), (2, .int v)] → hW D ah s.heap ah2 H2 L2 → W p l e R s m args below meth c H2 L2 (0) (0) Q (F0 m 2 ls []) := by
    intro k2
    induction k2 with
    | zero => intro i ah2 ls H2 L2 hk; exact absurd hk (Nat.not_lt_zero _)
    | succ k2 ih2 =>
      intro i ah2 ls H2 L2 hk2 hc2_a hi2 eq2 hl hw
      refine lv_iload_n hx hb dX4_renameGroup_2 rfl (lv_at hl 0 rfl) ?_
      refine lv_aload_n hx hb dX4_renameGroup_3 rfl (lv_at hl 1 rfl) ?_
      refine h_alen hx hb hK hw 0 rfl hc2_a dX4_renameGroup_4 ?_
      refine lv_icmp_ge (tgt := 25) hx hb dX4_renameGroup_5 (by decide) (fun c_1 => ?_) (fun c_1 => ?_)
      · skip
        have c_1 : n ≤ i := (nI_lex (by rfl) (by rfl) (by omega) (by omega)).mp c_1
        rw [hQ]
        exact h_vret hx hb hr hlk hsz hw (by simp) (by simp) dX4_renameGroup_25 ⟨rfl, by rw [eq2, show i = n by omega]⟩
      · skip
        have c_1 : ¬ (n ≤ i) := (not_congr (nI_lex (by rfl) (by rfl) (by omega) (by omega))).mp c_1
        refine lv_aload_n hx hb dX4_renameGroup_8 rfl (lv_at hl 1 rfl) ?_
        refine lv_iload_n hx hb dX4_renameGroup_9 rfl (lv_at hl 0 rfl) ?_
        refine h_iald hx hb hK hw hc2_a i rfl (by omega) (by omega) dX4_renameGroup_10 ?_
        refine lv_iload_n hx hb dX4_renameGroup_11 rfl (lv_at hl 2 rfl) ?_
        refine lv_icmp_ne (tgt := 19) hx hb dX4_renameGroup_12 (by decide) (fun c_2 => ?_) (fun c_2 => ?_)
        · skip
          refine lv_iinc (v := nI (i + 1)) (lv' := [(3, .int (nI (i + 1))), (0, .ref a), (1, .int u), (2, .int v)]) hx hb dX4_renameGroup_19 hl (k := 0) rfl (nI_c _ 1) (by decide) rfl (fun ls hl => ?_)
          refine lv_goto (tgt := 2) hx hb dX4_renameGroup_22 (by decide) ?_
          exact ih2 (i + 1) ah2 ls _ _ (by omega) (by rw [renF_k c_2]; exact hc2_a) (by omega) (by rw [eq2, renF_k c_2]) (lv_sub hl [0, 1, 2, 3] rfl) hw
        · skip
          refine lv_aload_n hx hb dX4_renameGroup_15 rfl (lv_at hl 1 rfl) ?_
          refine lv_iload_n hx hb dX4_renameGroup_16 rfl (lv_at hl 0 rfl) ?_
          refine lv_iload_n hx hb dX4_renameGroup_17 rfl (lv_at hl 3 rfl) ?_
          refine h_iast hx hb hK hw hc2_a i rfl (by omega) (by omega) dX4_renameGroup_18 (fun H_4 L_5 hw => ?_)
          obtain ⟨ah_6, eah_6⟩ : ∃ z9 : hA, z9 = hup ah2 a (.inl (dT 0, n, .inl (upd (renF f u v i) i v))) := ⟨_, rfl⟩
          have hw : hW D ah s.heap ah_6 H_4 L_5 := by rw [eah_6]; exact hw
          have hc_7 : ah_6 a = some (.inl (dT 0, n, .inl (upd (renF f u v i) i v))) := by rw [eah_6]; exact hup_s
          refine lv_iinc (v := nI (i + 1)) (lv' := [(3, .int (nI (i + 1))), (0, .ref a), (1, .int u), (2, .int v)]) hx hb dX4_renameGroup_19 hl (k := 0) rfl (nI_c _ 1) (by decide) rfl (fun ls hl => ?_)
          refine lv_goto (tgt := 2) hx hb dX4_renameGroup_22 (by decide) ?_
          exact ih2 (i + 1) ah_6 ls _ _ (by omega) (by rw [renF_x c_2]; exact hc_7) (by omega) (by rw [eah_6, eq2, hup_hup, renF_x c_2]) (lv_sub hl [0, 1, 2, 3] rfl) hw
  exact LP2 ((n - 0) + 1) 0 ah ls _ _ (Nat.lt_succ_self _) (by rw [renF_0]; exact hea) (by omega) (hup_id (by rw [renF_0]; exact hea)).symm (lv_sub hl [0, 1, 2, 3] rfl) hw

set_option maxHeartbeats 4000000 in
set_option maxRecDepth 100000 in
theorem c_X4_isNewCorner (l : Launch) (D : va_G) (dT : Nat → ClassId) (ah : hA) (sz : Nat) (pg ra nr : Nat) (pp : Int32) (FR : Nat → Option Nat) (RT : Nat → rgT) (hp9 : plA dT ah pg ra nr pp FR RT) (k : Nat) (hk : k ≤ 100000) (g rg bx : Nat) (nx : Option Nat) (no fx fy tx ty : Int32) (he : ah g = some (.inr (7, [.ref rg, .int no, .int fx, .int fy, .int tx, .int ty, .ref bx, va_rf nx]))) : hMet l yX4_isNewCorner cX4_isNewCorner 4 (some .boolean) ({ frames := 2, cells := 0, slots := 0, locals := 45 }) D dT [.ref pg, .int (nI k), .ref g] ah sz (fun r ah2 => r = some (.int (bI (plNew k nr RT fx fy))) ∧ ah = ah2) 0 0 := by
  refine h_met (by decide) (Nat.le_of_ble_eq_true rfl) ?_
  intro p e s m below meth c ls R Q args hav hR hQ hB hl hsz hw
  obtain ⟨hx, hb, hml, hr, hts, hown, hlk, hin, hK⟩ := hB
  have hown : s.vm.findClass RX4 = some m.cls := hown
  have hl : lv_has ls 4 [(0, .ref pg), (1, .int (nI k)), (2, .ref g)] := hl
  obtain ⟨hpg, hra, hnr, hpl⟩ := hp9
  refine lv_iconst (v := 0) hx hb dX4_isNewCorner_0 (by decide) ?_
  refine lv_istore_n (lv' := [(3, .int 0), (0, .ref pg), (1, .int (nI k)), (2, .ref g)]) hx hb dX4_isNewCorner_1 rfl hl (by decide) rfl (fun ls hl => ?_)
  have LP2 : ∀ (k2 : Nat) (i : Nat) (ls : Array Slot) (H2 : Heap) (L2 : List Loc), (k - i < k2) → (i ≤ k) → (∀ j, j < i → plHas (RT j) fx fy = false) → lv_has ls 4 [(3, .int (nI i)), (0, .ref pg), (1, .int (nI k)), (2, .ref g)] → hW D ah s.heap ah H2 L2 → W p l e R s m args below meth c H2 L2 (0) (0) Q (F0 m 2 ls []) := by
    intro k2
    induction k2 with
    | zero => intro i ls H2 L2 hk; exact absurd hk (Nat.not_lt_zero _)
    | succ k2 ih2 =>
      intro i ls H2 L2 hk2 hi hpv hl hw
      refine lv_iload_n hx hb dX4_isNewCorner_2 rfl (lv_at hl 0 rfl) ?_
      refine lv_iload_n hx hb dX4_isNewCorner_3 rfl (lv_at hl 2 rfl) ?_
      refine lv_icmp_ge (tgt := 67) hx hb dX4_isNewCorner_4 (by decide) (fun c_1 => ?_) (fun c_1 => ?_)
      · skip
        have c_1 : k ≤ i := (nI_lex (by rfl) (by rfl) (by omega) (by omega)).mp c_1
        refine lv_iconst (v := 1) hx hb dX4_isNewCorner_67 (by decide) ?_
        rw [hQ]
        exact h_zret hx hb hr hlk hsz hw (by simp) (by simp) dX4_isNewCorner_68 (by decide) ⟨congrArg (fun z => some (Value.int (bI z))) (a₁ := true) (plNew_t (fun j h1 h2 => hpv j (by omega))).symm, rfl⟩
      · skip
        have c_1 : ¬ (k ≤ i) := (not_congr (nI_lex (by rfl) (by rfl) (by omega) (by omega))).mp c_1
        refine lv_iload_n hx hb dX4_isNewCorner_7 rfl (lv_at hl 0 rfl) ?_
        refine lv_aload_n hx hb dX4_isNewCorner_8 rfl (lv_at hl 1 rfl) ?_
        refine h_get (ci := 4) (v := .ref ra) (C := RX4) (T := TX4) (N := 2) hx hb hts kl_X4 hown hK hw hpg rfl 1 (by decide) (hts _ kf_X4_15) rfl rfl dX4_isNewCorner_9 ?_
        refine h_alen hx hb hK hw 3 rfl hra dX4_isNewCorner_12 ?_
        refine lv_icmp_ge (tgt := 67) hx hb dX4_isNewCorner_13 (by decide) (fun c_2 => ?_) (fun c_2 => ?_)
        · skip
          have c_2 : nr ≤ i := (nI_lex (by rfl) (by rfl) (by omega) (by omega)).mp c_2
          refine lv_iconst (v := 1) hx hb dX4_isNewCorner_67 (by decide) ?_
          rw [hQ]
          exact h_zret hx hb hr hlk hsz hw (by simp) (by simp) dX4_isNewCorner_68 (by decide) ⟨congrArg (fun z => some (Value.int (bI z))) (a₁ := true) (plNew_t (fun j h1 h2 => hpv j (by omega))).symm, rfl⟩
        · skip
          have c_2 : ¬ (nr ≤ i) := (not_congr (nI_lex (by rfl) (by rfl) (by omega) (by omega))).mp c_2
          refine lv_aload_n hx hb dX4_isNewCorner_16 rfl (lv_at hl 1 rfl) ?_
          refine h_get (ci := 4) (v := .ref ra) (C := RX4) (T := TX4) (N := 2) hx hb hts kl_X4 hown hK hw hpg rfl 1 (by decide) (hts _ kf_X4_15) rfl rfl dX4_isNewCorner_17 ?_
          refine lv_iload_n hx hb dX4_isNewCorner_20 rfl (lv_at hl 0 rfl) ?_
          obtain ⟨hr_3_f, hr_3_g⟩ := hpl i (by omega)
          have hr_3_g : rgAt dT ah ((RT i).1 0) ((RT i).1 1) ((RT i).1 2) ((RT i).1 3) ((RT i).1 4) ((RT i).2.1 0) ((RT i).2.1 1) ((RT i).2.1 2) ((RT i).2.2.1) ((RT i).2.2.2.1) ((RT i).2.2.2.2.1) ((RT i).2.2.2.2.2.1) ((RT i).2.2.2.2.2.2.1) ((RT i).2.2.2.2.2.2.2) := hr_3_g
          refine h_aald hx hb hK hw 3 rfl hra i rfl (by omega) (by omega) hr_3_f dX4_isNewCorner_21 ?_
          refine h_getN (ci := 5) (v := .ref ((RT i).1 1)) (C := RX5) (T := TX5) (N := 7) hx hb hts kl_X5 hown hK hw hr_3_g.1 rfl 2 (by decide) (va_Nw.use rfl (hK.2.1 _ (List.mem_of_getElem? (i := 6) rfl))) rfl rfl dX4_isNewCorner_22 ?_
          refine lv_aload_n hx hb dX4_isNewCorner_25 rfl (lv_at hl 3 rfl) ?_
          refine h_getN (ci := 7) (v := .int fx) (C := RX7) (T := TX7) (N := 8) hx hb hts kl_X7 hown hK hw he rfl 2 (by decide) (va_Nw.use rfl (hK.2.1 _ (List.mem_of_getElem? (i := 21) rfl))) rfl rfl dX4_isNewCorner_26 ?_
          refine lv_aload_n hx hb dX4_isNewCorner_29 rfl (lv_at hl 3 rfl) ?_
          refine h_getN (ci := 7) (v := .int fy) (C := RX7) (T := TX7) (N := 8) hx hb hts kl_X7 hown hK hw he rfl 3 (by decide) (va_Nw.use rfl (hK.2.1 _ (List.mem_of_getElem? (i := 24) rfl))) rfl rfl dX4_isNewCorner_30 ?_
          refine h_callV (n := 2) (ci := 0) (b := ((RT i).1 1)) (As := [.int fx, .int fy]) (rest := []) ⟨hx, hb, hml, hown, hts⟩ hK hw (c_X0_has l D dT ah H2.size ((RT i).1 1) ((RT i).2.2.2.1 0) ((RT i).2.2.2.1 1) ((RT i).2.2.2.1 2) ((RT i).2.2.2.1 3) hr_3_g.2.1 fx fy) ko_X0_has km_X4_52 ki_X0_has ks_X0_has kn_X0 (by decide +kernel) rfl hr_3_g.2.1 rfl hl.1 rfl (by simp [Value.category]) dX4_isNewCorner_33 (by rw [hR]; exact ⟨rfl, rfl, Nat.le_of_ble_eq_true rfl, Nat.le_of_ble_eq_true rfl, by simp, by simp⟩) (fun r_4 ah_5 H_6 L_7 st_8 hp hw hst => ?_)
          obtain ⟨rfl, rfl⟩ := hp
          have hst : st_8 = [.int (bI (bxHas ((RT i).2.2.2.1 0) ((RT i).2.2.2.1 1) ((RT i).2.2.2.1 2) ((RT i).2.2.2.1 3) fx fy))] := hst
          subst hst
          refine lv_if_eq (tgt := 61) hx hb dX4_isNewCorner_36 (by decide) (fun c_9 => ?_) (fun c_9 => ?_)
          · skip
            have c_9 : bxHas ((RT i).2.2.2.1 0) ((RT i).2.2.2.1 1) ((RT i).2.2.2.1 2) ((RT i).2.2.2.1 3) fx fy = false := bI_0.mp c_9
            refine lv_iinc (v := nI (i + 1)) (lv' := [(3, .int (nI (i + 1))), (0, .ref pg), (1, .int (nI k)), (2, .ref g)]) hx hb dX4_isNewCorner_61 hl (k := 0) rfl (nI_c _ 1) (by decide) rfl (fun ls hl => ?_)
            refine lv_goto (tgt := 2) hx hb dX4_isNewCorner_64 (by decide) ?_
            refine W.widen (k := 0) (n := 0) (by omega) (by omega) ?_
            exact ih2 (i + 1) ls _ _ (by omega) (by omega) (lt_s hpv (plHas_1 c_9)) (lv_sub hl [0, 1, 2, 3] rfl) hw
          · skip
            have c_9 : ¬ (bxHas ((RT i).2.2.2.1 0) ((RT i).2.2.2.1 1) ((RT i).2.2.2.1 2) ((RT i).2.2.2.1 3) fx fy = false) := (not_congr bI_0).mp c_9
            refine lv_aload_n hx hb dX4_isNewCorner_39 rfl (lv_at hl 1 rfl) ?_
            refine h_get (ci := 4) (v := .ref ra) (C := RX4) (T := TX4) (N := 2) hx hb hts kl_X4 hown hK hw hpg rfl 1 (by decide) (hts _ kf_X4_15) rfl rfl dX4_isNewCorner_40 ?_
            refine lv_iload_n hx hb dX4_isNewCorner_43 rfl (lv_at hl 0 rfl) ?_
            obtain ⟨hr_11_f, hr_11_g⟩ := hpl i (by omega)
            have hr_11_g : rgAt dT ah ((RT i).1 0) ((RT i).1 1) ((RT i).1 2) ((RT i).1 3) ((RT i).1 4) ((RT i).2.1 0) ((RT i).2.1 1) ((RT i).2.1 2) ((RT i).2.2.1) ((RT i).2.2.2.1) ((RT i).2.2.2.2.1) ((RT i).2.2.2.2.2.1) ((RT i).2.2.2.2.2.2.1) ((RT i).2.2.2.2.2.2.2) := hr_11_g
            refine h_aald hx hb hK hw 3 rfl hra i rfl (by omega) (by omega) hr_11_f dX4_isNewCorner_44 ?_
            refine lv_aload_n hx hb dX4_isNewCorner_45 rfl (lv_at hl 3 rfl) ?_
            refine h_getN (ci := 7) (v := .int fx) (C := RX7) (T := TX7) (N := 8) hx hb hts kl_X7 hown hK hw he rfl 2 (by decide) (va_Nw.use rfl (hK.2.1 _ (List.mem_of_getElem? (i := 21) rfl))) rfl rfl dX4_isNewCorner_46 ?_
            refine lv_aload_n hx hb dX4_isNewCorner_49 rfl (lv_at hl 3 rfl) ?_
            refine h_getN (ci := 7) (v := .int fy) (C := RX7) (T := TX7) (N := 8) hx hb hts kl_X7 hown hK hw he rfl 3 (by decide) (va_Nw.use rfl (hK.2.1 _ (List.mem_of_getElem? (i := 24) rfl))) rfl rfl dX4_isNewCorner_50 ?_
            refine h_callV (n := 2) (ci := 5) (b := ((RT i).1 0)) (As := [.int fx, .int fy]) (rest := []) ⟨hx, hb, hml, hown, hts⟩ hK hw (c_X5_hasCorner l D dT ah H_6.size ((RT i).1 0) ((RT i).1 1) ((RT i).1 2) ((RT i).1 3) ((RT i).1 4) ((RT i).2.1 0) ((RT i).2.1 1) ((RT i).2.1 2) ((RT i).2.2.1) ((RT i).2.2.2.1) ((RT i).2.2.2.2.1) ((RT i).2.2.2.2.2.1) ((RT i).2.2.2.2.2.2.1) ((RT i).2.2.2.2.2.2.2) hr_11_g fx fy) ko_X5_hasCorner km_X4_58 ki_X5_hasCorner ks_X5_hasCorner kn_X5 (by decide +kernel) rfl hr_11_g.1 rfl hl.1 rfl (by simp [Value.category]) dX4_isNewCorner_53 (by rw [hR]; exact ⟨rfl, rfl, Nat.le_of_ble_eq_true rfl, Nat.le_of_ble_eq_true rfl, by simp, by simp⟩) (fun r_12 ah_13 H_14 L_15 st_16 hp hw hst => ?_)
            obtain ⟨rfl, rfl⟩ := hp
            have hst : st_16 = [.int (bI (rgCorner ((RT i).1 4) ((RT i).2.2.2.2.2.2.2) fx fy))] := hst
            subst hst
            refine lv_if_eq (tgt := 61) hx hb dX4_isNewCorner_56 (by decide) (fun c_17 => ?_) (fun c_17 => ?_)
            · skip
              have c_17 : rgCorner ((RT i).1 4) ((RT i).2.2.2.2.2.2.2) fx fy = false := bI_0.mp c_17
              refine lv_iinc (v := nI (i + 1)) (lv' := [(3, .int (nI (i + 1))), (0, .ref pg), (1, .int (nI k)), (2, .ref g)]) hx hb dX4_isNewCorner_61 hl (k := 0) rfl (nI_c _ 1) (by decide) rfl (fun ls hl => ?_)
              refine lv_goto (tgt := 2) hx hb dX4_isNewCorner_64 (by decide) ?_
              refine W.widen (k := 0) (n := 0) (by omega) (by omega) ?_
              exact ih2 (i + 1) ls _ _ (by omega) (by omega) (lt_s hpv (plHas_2 c_9 c_17)) (lv_sub hl [0, 1, 2, 3] rfl) hw
            · skip
              have c_17 : ¬ (rgCorner ((RT i).1 4) ((RT i).2.2.2.2.2.2.2) fx fy = false) := (not_congr bI_0).mp c_17
              refine lv_iconst (v := 0) hx hb dX4_isNewCorner_59 (by decide) ?_
              rw [hQ]
              exact h_zret hx hb hr hlk hsz hw (by simp) (by simp) dX4_isNewCorner_60 (by decide) ⟨congrArg (fun z => some (Value.int (bI z))) (a₁ := false) (plNew_f (i := i) (by omega) (by omega) (plHas_t c_9 c_17)).symm, rfl⟩
  exact LP2 ((k - 0) + 1) 0 ls _ _ (Nat.lt_succ_self _) (by omega) lt_0 (lv_sub hl [0, 1, 2, 3] rfl) hw

set_option maxHeartbeats 4000000 in
set_option maxRecDepth 100000 in
theorem c_X4_joinsInRound (l : Launch) (D : va_G) (dT : Nat → ClassId) (ah : hA) (sz : Nat) (pg ra nr : Nat) (pp : Int32) (FR : Nat → Option Nat) (RT : Nat → rgT) (hp9 : plA dT ah pg ra nr pp FR RT) (g rg bx : Nat) (nx : Option Nat) (no fx fy tx ty : Int32) (he : ah g = some (.inr (7, [.ref rg, .int no, .int fx, .int fy, .int tx, .int ty, .ref bx, va_rf nx]))) (ga : Nat) (f : Nat → Int32) (hega : ah ga = some (.inl (dT 0, nr, .inl f))) : hMet l yX4_joinsInRound cX4_joinsInRound 5 (some .boolean) ({ frames := 3, cells := 0, slots := 0, locals := 67 }) D dT [.ref pg, .ref g, .ref ga] ah sz (fun r ah2 => ∃ (b : Bool) (h2 : Nat → Int32), r = some (.int (bI b)) ∧ ah2 = hup ah ga (.inl (dT 0, nr, .inl h2)) ∧ (b = true → jrS (fun j => plP (RT j) fx fy) nr f nr = none) ∧ (b = false → ∃ g9, jrS (fun j => plP (RT j) fx fy) nr f nr = some (g9, h2))) 0 0 := by
  refine h_met (by decide) (Nat.le_of_ble_eq_true rfl) ?_
  intro p e s m below meth c ls R Q args hav hR hQ hB hl hsz hw
  obtain ⟨hx, hb, hml, hr, hts, hown, hlk, hin, hK⟩ := hB
  have hown : s.vm.findClass RX4 = some m.cls := hown
  have hl : lv_has ls 5 [(0, .ref pg), (1, .ref g), (2, .ref ga)] := hl
  have hp90 := hp9
  obtain ⟨hpg, hra, hnr, hpl⟩ := hp90
  refine lv_iconst (v := (-1)) hx hb dX4_joinsInRound_0 (by decide) ?_
  refine lv_istore_n (lv' := [(3, .int (-1)), (0, .ref pg), (1, .ref g), (2, .ref ga)]) hx hb dX4_joinsInRound_1 rfl hl (by decide) rfl (fun ls hl => ?_)
  refine lv_iconst (v := 0) hx hb dX4_joinsInRound_2 (by decide) ?_
  refine lv_istore (lv' := [(4, .int 0), (3, .int (-1)), (0, .ref pg), (1, .ref g), (2, .ref ga)]) hx hb dX4_joinsInRound_3 hl (by decide) rfl (fun ls hl => ?_)
  have LP5 : ∀ (k5 : Nat) (i : Nat) (gr : Int32) (h : Nat → Int32) (ah5 : hA) (ls : Array Slot) (H5 : Heap) (L5 : List Loc), (nr - i < k5) → (ah5 pg = some (.inr (4, [.int pp, .ref ra]))) → (ah5 ra = some (.inl (dT 3, nr, .inr (.inr (.inr (.inr FR)))))) → (ah5 g = some (.inr (7, [.ref rg, .int no, .int fx, .int fy, .int tx, .int ty, .ref bx, va_rf nx]))) → (ah5 ga = some (.inl (dT 0, nr, .inl h))) → (i ≤ nr) → (jrS (fun j => plP (RT j) fx fy) nr f i = some (gr, h)) → (plA dT ah5 pg ra nr pp FR RT) → (ah5 = hup ah ga (.inl (dT 0, nr, .inl h))) → lv_has ls 5 [(4, .int (nI i)), (3, .int gr), (0, .ref pg), (1, .ref g), (2, .ref ga)] → hW D ah s.heap ah5 H5 L5 → W p l e R s m args below meth c H5 L5 (0) (0) Q (F0 m 5 ls []) := by
    intro k5
    induction k5 with
    | zero => intro i gr h ah5 ls H5 L5 hk; exact absurd hk (Nat.not_lt_zero _)
    | succ k5 ih5 =>
      intro i gr h ah5 ls H5 L5 hk5 hc5_pg hc5_ra hc5_g hc5_ga hi5 hj5 hp5 eq5 hl hw
      have hpl5 := hp5.2.2.2
      refine lv_iload hx hb dX4_joinsInRound_5 (lv_at hl 0 rfl) ?_
      refine lv_aload_n hx hb dX4_joinsInRound_7 rfl (lv_at hl 2 rfl) ?_
      refine h_get (ci := 4) (v := .ref ra) (C := RX4) (T := TX4) (N := 2) hx hb hts kl_X4 hown hK hw hc5_pg rfl 1 (by decide) (hts _ kf_X4_15) rfl rfl dX4_joinsInRound_8 ?_
      refine h_alen hx hb hK hw 3 rfl hc5_ra dX4_joinsInRound_11 ?_
      refine lv_icmp_ge (tgt := 84) hx hb dX4_joinsInRound_12 (by decide) (fun c_1 => ?_) (fun c_1 => ?_)
      · skip
        have c_1 : nr ≤ i := (nI_lex (by rfl) (by rfl) (by omega) (by omega)).mp c_1
        refine lv_iconst (v := 0) hx hb dX4_joinsInRound_84 (by decide) ?_
        rw [hQ]
        exact h_zret hx hb hr hlk hsz hw (by simp) (by simp) dX4_joinsInRound_85 (by decide) ⟨false, h, rfl, eq5, fun h9 => (by cases h9), fun _ => ⟨gr, by rw [← hj5, show i = nr by omega]⟩⟩
      · skip
        have c_1 : ¬ (nr ≤ i) := (not_congr (nI_lex (by rfl) (by rfl) (by omega) (by omega))).mp c_1
        refine lv_iload hx hb dX4_joinsInRound_15 (lv_at hl 0 rfl) ?_
        refine lv_aload_n hx hb dX4_joinsInRound_17 rfl (lv_at hl 4 rfl) ?_
        refine h_alen hx hb hK hw 0 rfl hc5_ga dX4_joinsInRound_18 ?_
        refine lv_icmp_ge (tgt := 84) hx hb dX4_joinsInRound_19 (by decide) (fun c_2 => ?_) (fun c_2 => ?_)
        · skip
          have c_2 : nr ≤ i := (nI_lex (by rfl) (by rfl) (by omega) (by omega)).mp c_2
          refine lv_iconst (v := 0) hx hb dX4_joinsInRound_84 (by decide) ?_
          rw [hQ]
          exact h_zret hx hb hr hlk hsz hw (by simp) (by simp) dX4_joinsInRound_85 (by decide) ⟨false, h, rfl, eq5, fun h9 => (by cases h9), fun _ => ⟨gr, by rw [← hj5, show i = nr by omega]⟩⟩
        · skip
          have c_2 : ¬ (nr ≤ i) := (not_congr (nI_lex (by rfl) (by rfl) (by omega) (by omega))).mp c_2
          refine lv_aload_n hx hb dX4_joinsInRound_22 rfl (lv_at hl 2 rfl) ?_
          refine h_get (ci := 4) (v := .ref ra) (C := RX4) (T := TX4) (N := 2) hx hb hts kl_X4 hown hK hw hc5_pg rfl 1 (by decide) (hts _ kf_X4_15) rfl rfl dX4_joinsInRound_23 ?_
          refine lv_iload hx hb dX4_joinsInRound_26 (lv_at hl 0 rfl) ?_
          obtain ⟨hr_3_f, hr_3_g⟩ := hpl5 i (by omega)
          have hr_3_g : rgAt dT ah5 ((RT i).1 0) ((RT i).1 1) ((RT i).1 2) ((RT i).1 3) ((RT i).1 4) ((RT i).2.1 0) ((RT i).2.1 1) ((RT i).2.1 2) ((RT i).2.2.1) ((RT i).2.2.2.1) ((RT i).2.2.2.2.1) ((RT i).2.2.2.2.2.1) ((RT i).2.2.2.2.2.2.1) ((RT i).2.2.2.2.2.2.2) := hr_3_g
          refine h_aald hx hb hK hw 3 rfl hc5_ra i rfl (by omega) (by omega) hr_3_f dX4_joinsInRound_28 ?_
          refine lv_aload_n hx hb dX4_joinsInRound_29 rfl (lv_at hl 3 rfl) ?_
          refine h_getN (ci := 7) (v := .int fx) (C := RX7) (T := TX7) (N := 8) hx hb hts kl_X7 hown hK hw hc5_g rfl 2 (by decide) (va_Nw.use rfl (hK.2.1 _ (List.mem_of_getElem? (i := 21) rfl))) rfl rfl dX4_joinsInRound_30 ?_
          refine lv_aload_n hx hb dX4_joinsInRound_33 rfl (lv_at hl 3 rfl) ?_
          refine h_getN (ci := 7) (v := .int fy) (C := RX7) (T := TX7) (N := 8) hx hb hts kl_X7 hown hK hw hc5_g rfl 3 (by decide) (va_Nw.use rfl (hK.2.1 _ (List.mem_of_getElem? (i := 24) rfl))) rfl rfl dX4_joinsInRound_34 ?_
          refine h_callV (n := 2) (ci := 5) (b := ((RT i).1 0)) (As := [.int fx, .int fy]) (rest := []) ⟨hx, hb, hml, hown, hts⟩ hK hw (c_X5_passes l D dT ah5 H5.size ((RT i).1 0) ((RT i).1 1) ((RT i).1 2) ((RT i).1 3) ((RT i).1 4) ((RT i).2.1 0) ((RT i).2.1 1) ((RT i).2.1 2) ((RT i).2.2.1) ((RT i).2.2.2.1) ((RT i).2.2.2.2.1) ((RT i).2.2.2.2.2.1) ((RT i).2.2.2.2.2.2.1) ((RT i).2.2.2.2.2.2.2) hr_3_g fx fy) ko_X5_passes km_X4_61 ki_X5_passes ks_X5_passes kn_X5 (by decide +kernel) rfl hr_3_g.1 rfl hl.1 rfl (by simp [Value.category]) dX4_joinsInRound_37 (by rw [hR]; exact ⟨rfl, rfl, Nat.le_of_ble_eq_true rfl, Nat.le_of_ble_eq_true rfl, by simp, by simp⟩) (fun r_4 ah_5 H_6 L_7 st_8 hp hw hst => ?_)
          obtain ⟨rfl, rfl⟩ := hp
          have hst : st_8 = [.int (bI (rgPasses ((RT i).2.2.2.1) ((RT i).1 4) ((RT i).2.2.2.2.2.2.2) fx fy))] := hst
          subst hst
          refine lv_if_ne (tgt := 46) hx hb dX4_joinsInRound_40 (by decide) (fun c_9 => ?_) (fun c_9 => ?_)
          · skip
            have c_9 : ¬ (rgPasses ((RT i).2.2.2.1) ((RT i).1 4) ((RT i).2.2.2.2.2.2.2) fx fy = false) := (not_congr bI_0).mp c_9
            refine lv_iload_n hx hb dX4_joinsInRound_46 rfl (lv_at hl 1 rfl) ?_
            refine lv_iconst (v := (-1)) hx hb dX4_joinsInRound_47 (by decide) ?_
            refine lv_icmp_ne (tgt := 59) hx hb dX4_joinsInRound_48 (by decide) (fun c_10 => ?_) (fun c_10 => ?_)
            · skip
              refine lv_aload_n hx hb dX4_joinsInRound_59 rfl (lv_at hl 4 rfl) ?_
              refine lv_iload hx hb dX4_joinsInRound_60 (lv_at hl 0 rfl) ?_
              refine h_iald hx hb hK hw hc5_ga i rfl (by omega) (by omega) dX4_joinsInRound_62 ?_
              refine lv_iload_n hx hb dX4_joinsInRound_63 rfl (lv_at hl 1 rfl) ?_
              refine lv_icmp_ne (tgt := 69) hx hb dX4_joinsInRound_64 (by decide) (fun c_11 => ?_) (fun c_11 => ?_)
              · skip
                refine lv_aload_n hx hb dX4_joinsInRound_69 rfl (lv_at hl 4 rfl) ?_
                refine lv_aload_n hx hb dX4_joinsInRound_70 rfl (lv_at hl 4 rfl) ?_
                refine lv_iload hx hb dX4_joinsInRound_71 (lv_at hl 0 rfl) ?_
                refine h_iald hx hb hK hw hc5_ga i rfl (by omega) (by omega) dX4_joinsInRound_73 ?_
                refine lv_iload_n hx hb dX4_joinsInRound_74 rfl (lv_at hl 1 rfl) ?_
                refine h_callS (n := 3) (As := [.ref ga, .int (h i), .int gr]) (rest := []) ⟨hx, hb, hml, hown, hts⟩ hK hw (c_X4_renameGroup l D dT ah5 H_6.size ga nr h (h i) gr (by omega) hc5_ga) ko_X4_renameGroup km_X4_64 kt_X4_renameGroup kn_X4 (by decide +kernel) rfl hl.1 rfl (by simp [Value.category]) dX4_joinsInRound_75 (by rw [hR]; exact ⟨rfl, rfl, Nat.le_of_ble_eq_true rfl, Nat.le_of_ble_eq_true rfl, by simp, by simp⟩) (fun r_12 ah_13 H_14 L_15 st_16 hp hw hst => ?_)
                obtain ⟨rfl, eah_13⟩ := hp
                have hc_17 := (show ah_13 pg = _ from (by rw [eah_13]; exact hup_n (h_ne hc5_pg hc5_ga (by simp)))).trans hc5_pg
                have hc_18 := (show ah_13 ra = _ from (by rw [eah_13]; exact hup_n (h_ne hc5_ra hc5_ga (by simp)))).trans hc5_ra
                have hc_19 := (show ah_13 g = _ from (by rw [eah_13]; exact hup_n (h_ne hc5_g hc5_ga (by simp)))).trans hc5_g
                have hc_20 : ah_13 ga = some (.inl (dT 0, nr, .inl (renF h (h i) gr nr))) := by rw [eah_13]; exact hup_s
                have hc_21 := (show ah_13 ((RT i).1 0) = _ from (by rw [eah_13]; exact hup_n (h_ne hr_3_g.1 hc5_ga (by simp)))).trans hr_3_g.1
                have hc_22 := (show ah_13 ((RT i).1 1) = _ from (by rw [eah_13]; exact hup_n (h_ne hr_3_g.2.1 hc5_ga (by simp)))).trans hr_3_g.2.1
                have hc_23 := (show ah_13 ((RT i).1 2) = _ from (by rw [eah_13]; exact hup_n (h_ne hr_3_g.2.2.1 hc5_ga (by simp)))).trans hr_3_g.2.2.1
                have hst : st_16 = [] := hst
                subst hst
                refine lv_iinc (v := nI (i + 1)) (lv' := [(4, .int (nI (i + 1))), (3, .int gr), (0, .ref pg), (1, .ref g), (2, .ref ga)]) hx hb dX4_joinsInRound_78 hl (k := 0) rfl (nI_c _ 1) (by decide) rfl (fun ls hl => ?_)
                refine lv_goto (tgt := 5) hx hb dX4_joinsInRound_81 (by decide) ?_
                refine W.widen (k := 0) (n := 0) (by omega) (by omega) ?_
                exact ih5 (i + 1) gr (renF h (h i) gr nr) ah_13 ls _ _ (by omega) hc_17 hc_18 hc_19 hc_20 (by omega) (jr_r hj5 c_9 c_10 c_11) (by rw [eah_13]; exact plA_up hc5_ga hp5) (by rw [eah_13, eq5, hup_hup]) (lv_sub hl [0, 1, 2, 3, 4] rfl) hw
              · skip
                refine lv_iconst (v := 1) hx hb dX4_joinsInRound_67 (by decide) ?_
                rw [hQ]
                exact h_zret hx hb hr hlk hsz hw (by simp) (by simp) dX4_joinsInRound_68 (by decide) ⟨true, h, rfl, eq5, fun _ => jr_n (i := i) (by omega) (jr_x hj5 c_9 c_10 c_11), fun h9 => by cases h9⟩
            · skip
              refine lv_aload_n hx hb dX4_joinsInRound_51 rfl (lv_at hl 4 rfl) ?_
              refine lv_iload hx hb dX4_joinsInRound_52 (lv_at hl 0 rfl) ?_
              refine h_iald hx hb hK hw hc5_ga i rfl (by omega) (by omega) dX4_joinsInRound_54 ?_
              refine lv_istore_n (lv' := [(3, .int (h i)), (4, .int (nI i)), (0, .ref pg), (1, .ref g), (2, .ref ga)]) hx hb dX4_joinsInRound_55 rfl hl (by decide) rfl (fun ls hl => ?_)
              refine lv_goto (tgt := 78) hx hb dX4_joinsInRound_56 (by decide) ?_
              refine lv_iinc (v := nI (i + 1)) (lv' := [(4, .int (nI (i + 1))), (3, .int (h i)), (0, .ref pg), (1, .ref g), (2, .ref ga)]) hx hb dX4_joinsInRound_78 hl (k := 1) rfl (nI_c _ 1) (by decide) rfl (fun ls hl => ?_)
              refine lv_goto (tgt := 5) hx hb dX4_joinsInRound_81 (by decide) ?_
              refine W.widen (k := 0) (n := 0) (by omega) (by omega) ?_
              exact ih5 (i + 1) (h i) h ah5 ls _ _ (by omega) hc5_pg hc5_ra hc5_g hc5_ga (by omega) (jr_f hj5 c_9 c_10) hp5 eq5 (lv_sub hl [0, 1, 2, 3, 4] rfl) hw
          · skip
            have c_9 : rgPasses ((RT i).2.2.2.1) ((RT i).1 4) ((RT i).2.2.2.2.2.2.2) fx fy = false := bI_0.mp c_9
            refine lv_goto (tgt := 78) hx hb dX4_joinsInRound_43 (by decide) ?_
            refine lv_iinc (v := nI (i + 1)) (lv' := [(4, .int (nI (i + 1))), (3, .int gr), (0, .ref pg), (1, .ref g), (2, .ref ga)]) hx hb dX4_joinsInRound_78 hl (k := 0) rfl (nI_c _ 1) (by decide) rfl (fun ls hl => ?_)
            refine lv_goto (tgt := 5) hx hb dX4_joinsInRound_81 (by decide) ?_
            refine W.widen (k := 0) (n := 0) (by omega) (by omega) ?_
            exact ih5 (i + 1) gr h ah5 ls _ _ (by omega) hc5_pg hc5_ra hc5_g hc5_ga (by omega) (jr_k hj5 c_9) hp5 eq5 (lv_sub hl [0, 1, 2, 3, 4] rfl) hw
  exact LP5 ((nr - 0) + 1) 0 (-1) f ah ls _ _ (Nat.lt_succ_self _) hpg hra he hega (by omega) rfl hp9 (hup_id hega).symm (lv_sub hl [0, 1, 2, 3, 4] rfl) hw

set_option maxHeartbeats 4000000 in
set_option maxRecDepth 100000 in
theorem c_X4_isSplit (l : Launch) (D : va_G) (dT : Nat → ClassId) (ah : hA) (sz : Nat) (pg ra nr : Nat) (pp : Int32) (FR : Nat → Option Nat) (RT : Nat → rgT) (hp9 : plA dT ah pg ra nr pp FR RT) : hMet l yX4_isSplit cX4_isSplit 6 (some .boolean) ({ frames := 4, cells := 1, slots := nr, locals := 91 }) D dT [.ref pg] ah sz (fun r ah2 => ∃ b : Bool, r = some (.int (bI b)) ∧ b = plSplit nr RT ∧ ∃ q : Nat, ah q = none ∧ ∀ a, a ≠ q → ah2 a = ah a) 1 nr := by
  refine h_met (by decide) (Nat.le_of_ble_eq_true rfl) ?_
  intro p e s m below meth c ls R Q args hav hR hQ hB hl hsz hw
  obtain ⟨hx, hb, hml, hr, hts, hown, hlk, hin, hK⟩ := hB
  have hown : s.vm.findClass RX4 = some m.cls := hown
  have hl : lv_has ls 6 [(0, .ref pg)] := hl
  have hp90 := hp9
  obtain ⟨hpg, hra, hnr, hpl⟩ := hp90
  refine lv_aload_n hx hb dX4_isSplit_0 rfl (lv_at hl 0 rfl) ?_
  refine h_get (ci := 4) (v := .ref ra) (C := RX4) (T := TX4) (N := 2) hx hb hts kl_X4 hown hK hw hpg rfl 1 (by decide) (hts _ kf_X4_15) rfl rfl dX4_isSplit_1 ?_
  refine h_alen hx hb hK hw 3 rfl hra dX4_isSplit_4 ?_
  refine h_newi hx hb (hts _ kA_int) hK hw nr rfl (by omega) (by rw [hR]; simp) (by rw [hR]; simp) dX4_isSplit_5 (fun q_1 H_2 hqq_1 hw => ?_)
  obtain ⟨ah_3, eah_3⟩ : ∃ z9 : hA, z9 = hup ah q_1 (.inl (dT 0, nr, .inl (fun _ => 0))) := ⟨_, rfl⟩
  have hw : hW D ah s.heap ah_3 H_2 [] := by rw [eah_3]; exact hw
  have hne_5 : pg ≠ q_1 := h_fr hpg hqq_1
  have hc_4 := (show ah_3 pg = _ from (by rw [eah_3]; exact hup_n (hne_5))).trans hpg
  have hne_7 : ra ≠ q_1 := h_fr hra hqq_1
  have hc_6 := (show ah_3 ra = _ from (by rw [eah_3]; exact hup_n (hne_7))).trans hra
  have hc_q_1 : ah_3 q_1 = some (.inl (dT 0, nr, .inl (fun _ => 0))) := by rw [eah_3]; exact hup_s
  refine lv_astore_n (lv' := [(1, .ref q_1), (0, .ref pg)]) hx hb dX4_isSplit_7 rfl hl (by decide) rfl (fun ls hl => ?_)
  refine lv_iconst (v := 0) hx hb dX4_isSplit_8 (by decide) ?_
  refine lv_istore_n (lv' := [(2, .int 0), (1, .ref q_1), (0, .ref pg)]) hx hb dX4_isSplit_9 rfl hl (by decide) rfl (fun ls hl => ?_)
  have LP10 : ∀ (k10 : Nat) (i : Nat) (ah10 : hA) (ls : Array Slot) (H10 : Heap) (L10 : List Loc), (nr - i < k10) → (ah10 pg = some (.inr (4, [.int pp, .ref ra]))) → (ah10 ra = some (.inl (dT 3, nr, .inr (.inr (.inr (.inr FR)))))) → (ah10 q_1 = some (.inl (dT 0, nr, .inl (idF i)))) → (i ≤ nr) → (plA dT ah10 pg ra nr pp FR RT) → (ah10 = hup ah q_1 (.inl (dT 0, nr, .inl (idF i)))) → lv_has ls 6 [(2, .int (nI i)), (0, .ref pg), (1, .ref q_1)] → hW D ah s.heap ah10 H10 L10 → W p l e R s m args below meth c H10 L10 (0 + 1) (0 + nr) Q (F0 m 10 ls []) := by
    intro k10
    induction k10 with
    | zero => intro i ah10 ls H10 L10 hk; exact absurd hk (Nat.not_lt_zero _)
    | succ k10 ih10 =>
      intro i ah10 ls H10 L10 hk10 hc10_pg hc10_ra hc10_q_1 hi10 hp10 eq10 hl hw
      have hpl10 := hp10.2.2.2
      refine lv_iload_n hx hb dX4_isSplit_10 rfl (lv_at hl 0 rfl) ?_
      refine lv_aload_n hx hb dX4_isSplit_11 rfl (lv_at hl 2 rfl) ?_
      refine h_alen hx hb hK hw 0 rfl hc10_q_1 dX4_isSplit_12 ?_
      refine lv_icmp_ge (tgt := 26) hx hb dX4_isSplit_13 (by decide) (fun c_8 => ?_) (fun c_8 => ?_)
      · skip
        have c_8 : nr ≤ i := (nI_lex (by rfl) (by rfl) (by omega) (by omega)).mp c_8
        refine lv_iconst (v := 0) hx hb dX4_isSplit_26 (by decide) ?_
        refine lv_istore_n (lv' := [(2, .int 0), (0, .ref pg), (1, .ref q_1)]) hx hb dX4_isSplit_27 rfl hl (by decide) rfl (fun ls hl => ?_)
        have LP28 : ∀ (k28 : Nat) (i2 : Nat) (h : Nat → Int32) (ah28 : hA) (ls : Array Slot) (H28 : Heap) (L28 : List Loc), (nr - i2 < k28) → (ah28 pg = some (.inr (4, [.int pp, .ref ra]))) → (ah28 ra = some (.inl (dT 3, nr, .inr (.inr (.inr (.inr FR)))))) → (ah28 q_1 = some (.inl (dT 0, nr, .inl h))) → (i2 ≤ nr) → (plA dT ah28 pg ra nr pp FR RT) → (ah28 = hup ah q_1 (.inl (dT 0, nr, .inl h))) → (outS RT nr i2 = some h) → lv_has ls 6 [(2, .int (nI i2)), (0, .ref pg), (1, .ref q_1)] → hW D ah s.heap ah28 H28 L28 → W p l e R s m args below meth c H28 L28 (0 + 1) (0 + nr) Q (F0 m 28 ls []) := by
          intro k28
          induction k28 with
          | zero => intro i2 h ah28 ls H28 L28 hk; exact absurd hk (Nat.not_lt_zero _)
          | succ k28 ih28 =>
            intro i2 h ah28 ls H28 L28 hk28 hc28_pg hc28_ra hc28_q_1 hi28 hp28 eq28 ho28 hl hw
            have hpl28 := hp28.2.2.2
            refine lv_iload_n hx hb dX4_isSplit_28 rfl (lv_at hl 0 rfl) ?_
            refine lv_aload_n hx hb dX4_isSplit_29 rfl (lv_at hl 1 rfl) ?_
            refine h_get (ci := 4) (v := .ref ra) (C := RX4) (T := TX4) (N := 2) hx hb hts kl_X4 hown hK hw hc28_pg rfl 1 (by decide) (hts _ kf_X4_15) rfl rfl dX4_isSplit_30 ?_
            refine h_alen hx hb hK hw 3 rfl hc28_ra dX4_isSplit_33 ?_
            refine lv_icmp_ge (tgt := 99) hx hb dX4_isSplit_34 (by decide) (fun c_9 => ?_) (fun c_9 => ?_)
            · skip
              have c_9 : nr ≤ i2 := (nI_lex (by rfl) (by rfl) (by omega) (by omega)).mp c_9
              refine lv_iconst (v := 0) hx hb dX4_isSplit_99 (by decide) ?_
              have hsplF : ∃ q : Nat, ah q = none ∧ ∀ a, a ≠ q → ah28 a = ah a := ⟨q_1, hqq_1, fun a h9 => by rw [eq28]; exact hup_n h9⟩
              rw [hQ]
              exact h_zret hx hb hr hlk hsz hw (by simp) (by simp) dX4_isSplit_100 (by decide) ⟨false, rfl, spl_f (h := h) (by rw [← ho28, show i2 = nr by omega]), hsplF⟩
            · skip
              have c_9 : ¬ (nr ≤ i2) := (not_congr (nI_lex (by rfl) (by rfl) (by omega) (by omega))).mp c_9
              refine lv_aload_n hx hb dX4_isSplit_37 rfl (lv_at hl 1 rfl) ?_
              refine h_get (ci := 4) (v := .ref ra) (C := RX4) (T := TX4) (N := 2) hx hb hts kl_X4 hown hK hw hc28_pg rfl 1 (by decide) (hts _ kf_X4_15) rfl rfl dX4_isSplit_38 ?_
              refine lv_iload_n hx hb dX4_isSplit_41 rfl (lv_at hl 0 rfl) ?_
              obtain ⟨hr_10_f, hr_10_g⟩ := hpl28 i2 (by omega)
              have hr_10_g : rgAt dT ah28 ((RT i2).1 0) ((RT i2).1 1) ((RT i2).1 2) ((RT i2).1 3) ((RT i2).1 4) ((RT i2).2.1 0) ((RT i2).2.1 1) ((RT i2).2.1 2) ((RT i2).2.2.1) ((RT i2).2.2.2.1) ((RT i2).2.2.2.2.1) ((RT i2).2.2.2.2.2.1) ((RT i2).2.2.2.2.2.2.1) ((RT i2).2.2.2.2.2.2.2) := hr_10_g
              refine h_aald hx hb hK hw 3 rfl hc28_ra i2 rfl (by omega) (by omega) hr_10_f dX4_isSplit_42 ?_
              refine lv_astore_n (lv' := [(3, .ref ((RT i2).1 0)), (2, .int (nI i2)), (0, .ref pg), (1, .ref q_1)]) hx hb dX4_isSplit_43 rfl hl (by decide) rfl (fun ls hl => ?_)
              refine lv_iconst (v := 0) hx hb dX4_isSplit_44 (by decide) ?_
              refine lv_istore (lv' := [(4, .int 0), (3, .ref ((RT i2).1 0)), (2, .int (nI i2)), (0, .ref pg), (1, .ref q_1)]) hx hb dX4_isSplit_45 hl (by decide) rfl (fun ls hl => ?_)
              have LP47 : ∀ (k47 : Nat) (k : Nat) (h3 : Nat → Int32) (ah47 : hA) (ls : Array Slot) (H47 : Heap) (L47 : List Loc), ((RT i2).1 4 - k < k47) → (ah47 pg = some (.inr (4, [.int pp, .ref ra]))) → (ah47 ra = some (.inl (dT 3, nr, .inr (.inr (.inr (.inr FR)))))) → (ah47 q_1 = some (.inl (dT 0, nr, .inl h3))) → (k ≤ (RT i2).1 4) → (plA dT ah47 pg ra nr pp FR RT) → (ah47 = hup ah q_1 (.inl (dT 0, nr, .inl h3))) → (inS RT nr i2 h k = some h3) → lv_has ls 6 [(4, .int (nI k)), (3, .ref ((RT i2).1 0)), (2, .int (nI i2)), (0, .ref pg), (1, .ref q_1)] → hW D ah s.heap ah47 H47 L47 → W p l e R s m args below meth c H47 L47 (0 + 1) (0 + nr) Q (F0 m 47 ls []) := by
                intro k47
                induction k47 with
                | zero => intro k h3 ah47 ls H47 L47 hk; exact absurd hk (Nat.not_lt_zero _)
                | succ k47 ih47 =>
                  intro k h3 ah47 ls H47 L47 hk47 hc47_pg hc47_ra hc47_q_1 hk47 hp47 eq47 hn47 hl hw
                  obtain ⟨hr47_f, hr47_g⟩ := hp47.2.2.2 i2 (by omega)
                  have hr47_g : rgAt dT ah47 ((RT i2).1 0) ((RT i2).1 1) ((RT i2).1 2) ((RT i2).1 3) ((RT i2).1 4) ((RT i2).2.1 0) ((RT i2).2.1 1) ((RT i2).2.1 2) ((RT i2).2.2.1) ((RT i2).2.2.2.1) ((RT i2).2.2.2.2.1) ((RT i2).2.2.2.2.2.1) ((RT i2).2.2.2.2.2.2.1) ((RT i2).2.2.2.2.2.2.2) := hr47_g
                  have hpl47 := hp47.2.2.2
                  have hcp47 := hr47_g.2.2.2.1
                  have hcq47 := hr47_g.2.2.2.2.1
                  refine lv_iload hx hb dX4_isSplit_47 (lv_at hl 0 rfl) ?_
                  refine lv_aload_n hx hb dX4_isSplit_49 rfl (lv_at hl 1 rfl) ?_
                  refine h_getN (ci := 5) (v := .int (nI ((RT i2).1 4))) (C := RX5) (T := TX5) (N := 7) hx hb hts kl_X5 hown hK hw hr47_g.1 rfl 4 (by decide) (va_Nw.use rfl (hK.2.1 _ (List.mem_of_getElem? (i := 10) rfl))) rfl rfl dX4_isSplit_50 ?_
                  refine lv_icmp_ge (tgt := 93) hx hb dX4_isSplit_53 (by decide) (fun c_11 => ?_) (fun c_11 => ?_)
                  · skip
                    have c_11 : (RT i2).1 4 ≤ k := (nI_lex (by rfl) (by rfl) (by omega) (by omega)).mp c_11
                    refine lv_iinc (v := nI (i2 + 1)) (lv' := [(2, .int (nI (i2 + 1))), (4, .int (nI k)), (3, .ref ((RT i2).1 0)), (0, .ref pg), (1, .ref q_1)]) hx hb dX4_isSplit_93 hl (k := 2) rfl (nI_c _ 1) (by decide) rfl (fun ls hl => ?_)
                    refine lv_goto (tgt := 28) hx hb dX4_isSplit_96 (by decide) ?_
                    exact ih28 (i2 + 1) h3 ah47 ls _ _ (by omega) hc47_pg hc47_ra hc47_q_1 (by omega) hp47 eq47 (out_s ho28 (by rw [← hn47, show k = (RT i2).1 4 by omega])) (lv_sub hl [0, 3, 4] rfl) hw
                  · skip
                    have c_11 : ¬ ((RT i2).1 4 ≤ k) := (not_congr (nI_lex (by rfl) (by rfl) (by omega) (by omega))).mp c_11
                    refine lv_aload_n hx hb dX4_isSplit_56 rfl (lv_at hl 1 rfl) ?_
                    refine h_getN (ci := 5) (v := .ref ((RT i2).1 2)) (C := RX5) (T := TX5) (N := 7) hx hb hts kl_X5 hown hK hw hr47_g.1 rfl 3 (by decide) (va_Nw.use rfl (hK.2.1 _ (List.mem_of_getElem? (i := 8) rfl))) rfl rfl dX4_isSplit_57 ?_
                    refine lv_iload hx hb dX4_isSplit_60 (lv_at hl 0 rfl) ?_
                    obtain ⟨hs_13_f, hs_13_g, hs_13_b⟩ := hr47_g.2.2.2.2.2 k (by omega)
                    refine h_aald hx hb hK hw 2 rfl hr47_g.2.2.1 k rfl (by omega) (by omega) hs_13_f dX4_isSplit_62 ?_
                    refine lv_astore (lv' := [(5, .ref ((RT i2).2.2.2.2.2.1 k)), (4, .int (nI k)), (3, .ref ((RT i2).1 0)), (2, .int (nI i2)), (0, .ref pg), (1, .ref q_1)]) hx hb dX4_isSplit_63 hl (by decide) rfl (fun ls hl => ?_)
                    refine lv_aload_n hx hb dX4_isSplit_65 rfl (lv_at hl 4 rfl) ?_
                    refine lv_iload_n hx hb dX4_isSplit_66 rfl (lv_at hl 3 rfl) ?_
                    refine lv_aload hx hb dX4_isSplit_67 (lv_at hl 0 rfl) ?_
                    refine h_callV (n := 2) (ci := 4) (b := pg) (As := [.int (nI i2), .ref ((RT i2).2.2.2.2.2.1 k)]) (rest := []) ⟨hx, hb, hml, hown, hts⟩ hK hw (c_X4_isNewCorner l D dT ah47 H47.size pg ra nr pp FR RT hp47 i2 (by omega) ((RT i2).2.2.2.2.2.1 k) ((RT i2).1 0) ((RT i2).2.2.2.2.2.2.1 k) (rgN ((RT i2).1 4) ((RT i2).2.2.2.2.2.1) k) ((RT i2).2.2.2.2.2.2.2 k 0) ((RT i2).2.2.2.2.2.2.2 k 1) ((RT i2).2.2.2.2.2.2.2 k 2) ((RT i2).2.2.2.2.2.2.2 k 3) ((RT i2).2.2.2.2.2.2.2 k 4) hs_13_g) ko_X4_isNewCorner km_X4_32 ki_X4_isNewCorner ks_X4_isNewCorner kn_X4 (by decide +kernel) rfl hc47_pg rfl hl.1 rfl (by simp [Value.category]) dX4_isSplit_69 (by rw [hR]; exact ⟨rfl, rfl, Nat.le_of_ble_eq_true rfl, Nat.le_of_ble_eq_true rfl, by simp, by simp⟩) (fun r_14 ah_15 H_16 L_17 st_18 hp hw hst => ?_)
                    obtain ⟨rfl, rfl⟩ := hp
                    have hst : st_18 = [.int (bI (plNew i2 nr RT ((RT i2).2.2.2.2.2.2.2 k 1) ((RT i2).2.2.2.2.2.2.2 k 2)))] := hst
                    subst hst
                    refine lv_if_eq (tgt := 87) hx hb dX4_isSplit_72 (by decide) (fun c_19 => ?_) (fun c_19 => ?_)
                    · skip
                      have c_19 : plNew i2 nr RT ((RT i2).2.2.2.2.2.2.2 k 1) ((RT i2).2.2.2.2.2.2.2 k 2) = false := bI_0.mp c_19
                      refine lv_iinc (v := nI (k + 1)) (lv' := [(4, .int (nI (k + 1))), (5, .ref ((RT i2).2.2.2.2.2.1 k)), (3, .ref ((RT i2).1 0)), (2, .int (nI i2)), (0, .ref pg), (1, .ref q_1)]) hx hb dX4_isSplit_87 hl (k := 1) rfl (nI_c _ 1) (by decide) rfl (fun ls hl => ?_)
                      refine lv_goto (tgt := 47) hx hb dX4_isSplit_90 (by decide) ?_
                      refine W.widen (k := 0 + 1) (n := 0 + nr) (by omega) (by omega) ?_
                      exact ih47 (k + 1) h3 ah47 ls _ _ (by omega) hc47_pg hc47_ra hc47_q_1 (by omega) hp47 eq47 (in_k hn47 c_19) (lv_sub hl [0, 2, 3, 4, 5] rfl) hw
                    · skip
                      have c_19 : ¬ (plNew i2 nr RT ((RT i2).2.2.2.2.2.2.2 k 1) ((RT i2).2.2.2.2.2.2.2 k 2) = false) := (not_congr bI_0).mp c_19
                      refine lv_aload_n hx hb dX4_isSplit_75 rfl (lv_at hl 4 rfl) ?_
                      refine lv_aload hx hb dX4_isSplit_76 (lv_at hl 0 rfl) ?_
                      refine lv_aload_n hx hb dX4_isSplit_78 rfl (lv_at hl 5 rfl) ?_
                      refine h_callV (n := 2) (ci := 4) (b := pg) (As := [.ref ((RT i2).2.2.2.2.2.1 k), .ref q_1]) (rest := []) ⟨hx, hb, hml, hown, hts⟩ hK hw (c_X4_joinsInRound l D dT ah47 H_16.size pg ra nr pp FR RT hp47 ((RT i2).2.2.2.2.2.1 k) ((RT i2).1 0) ((RT i2).2.2.2.2.2.2.1 k) (rgN ((RT i2).1 4) ((RT i2).2.2.2.2.2.1) k) ((RT i2).2.2.2.2.2.2.2 k 0) ((RT i2).2.2.2.2.2.2.2 k 1) ((RT i2).2.2.2.2.2.2.2 k 2) ((RT i2).2.2.2.2.2.2.2 k 3) ((RT i2).2.2.2.2.2.2.2 k 4) hs_13_g q_1 h3 hc47_q_1) ko_X4_joinsInRound km_X4_36 ki_X4_joinsInRound ks_X4_joinsInRound kn_X4 (by decide +kernel) rfl hc47_pg rfl hl.1 rfl (by simp [Value.category]) dX4_isSplit_79 (by rw [hR]; exact ⟨rfl, rfl, Nat.le_of_ble_eq_true rfl, Nat.le_of_ble_eq_true rfl, by simp, by simp⟩) (fun r_21 ah_22 H_23 L_24 st_25 hp hw hst => ?_)
                      obtain ⟨bj, hj2, rfl, eah_22, hjt, hjf⟩ := hp
                      have hc_26 := (show ah_22 pg = _ from (by rw [eah_22]; exact hup_n (hne_5))).trans hc47_pg
                      have hc_27 := (show ah_22 ra = _ from (by rw [eah_22]; exact hup_n (hne_7))).trans hc47_ra
                      have hc_28 : ah_22 q_1 = some (.inl (dT 0, nr, .inl hj2)) := by rw [eah_22]; exact hup_s
                      have hc_29 := (show ah_22 ((RT i2).1 0) = _ from (by rw [eah_22]; exact hup_n (h_ne hr47_g.1 hc47_q_1 (by simp)))).trans hr47_g.1
                      have hc_30 := (show ah_22 ((RT i2).1 1) = _ from (by rw [eah_22]; exact hup_n (h_ne hr47_g.2.1 hc47_q_1 (by simp)))).trans hr47_g.2.1
                      have hc_31 := (show ah_22 ((RT i2).1 2) = _ from (by rw [eah_22]; exact hup_n (h_ne hr47_g.2.2.1 hc47_q_1 (by simp)))).trans hr47_g.2.2.1
                      have hc_32 := (show ah_22 ((RT i2).2.2.2.2.2.1 k) = _ from (by rw [eah_22]; exact hup_n (h_ne hs_13_g hc47_q_1 (by simp)))).trans hs_13_g
                      have hc_33 := (show ah_22 ((RT i2).2.2.2.2.2.2.1 k) = _ from (by rw [eah_22]; exact hup_n (h_ne hs_13_b hc47_q_1 (by simp)))).trans hs_13_b
                      have hst : st_25 = [.int (bI bj)] := hst
                      subst hst
                      refine lv_if_eq (tgt := 87) hx hb dX4_isSplit_82 (by decide) (fun c_34 => ?_) (fun c_34 => ?_)
                      · skip
                        have c_34 : bj = false := bI_0.mp c_34
                        refine lv_iinc (v := nI (k + 1)) (lv' := [(4, .int (nI (k + 1))), (5, .ref ((RT i2).2.2.2.2.2.1 k)), (3, .ref ((RT i2).1 0)), (2, .int (nI i2)), (0, .ref pg), (1, .ref q_1)]) hx hb dX4_isSplit_87 hl (k := 1) rfl (nI_c _ 1) (by decide) rfl (fun ls hl => ?_)
                        refine lv_goto (tgt := 47) hx hb dX4_isSplit_90 (by decide) ?_
                        refine W.widen (k := 0 + 1) (n := 0 + nr) (by omega) (by omega) ?_
                        exact ih47 (k + 1) hj2 ah_22 ls _ _ (by omega) hc_26 hc_27 hc_28 (by omega) (by rw [eah_22]; exact plA_up hc47_q_1 hp47) (by rw [eah_22, eq47, hup_hup]) (in_j hn47 c_19 (hjf c_34)) (lv_sub hl [0, 2, 3, 4, 5] rfl) hw
                      · skip
                        have c_34 : ¬ (bj = false) := (not_congr bI_0).mp c_34
                        refine lv_iconst (v := 1) hx hb dX4_isSplit_85 (by decide) ?_
                        have hsplF : ∃ q : Nat, ah q = none ∧ ∀ a, a ≠ q → ah_22 a = ah a := ⟨q_1, hqq_1, fun a h9 => by rw [eah_22, eq47, hup_hup]; exact hup_n h9⟩
                        rw [hQ]
                        exact h_zret hx hb hr hlk hsz hw (by simp) (by simp) dX4_isSplit_86 (by decide) ⟨true, rfl, (spl_t (outS_none (i := i2) (by omega) (out_n ho28 (in_none (k := k) (by omega) (in_x hn47 c_19 (hjt (nF c_34))))))), hsplF⟩
              exact LP47 (((RT i2).1 4 - 0) + 1) 0 h ah28 ls _ _ (Nat.lt_succ_self _) hc28_pg hc28_ra hc28_q_1 (by omega) hp28 eq28 rfl (lv_sub hl [0, 1, 2, 3, 4] rfl) hw
        exact LP28 ((nr - 0) + 1) 0 (idF i) ah10 ls _ _ (Nat.lt_succ_self _) hc10_pg hc10_ra hc10_q_1 (by omega) hp10 (by rw [eq10]) (by rw [show i = nr by omega]; rfl) (lv_sub hl [0, 1, 2] rfl) hw
      · skip
        have c_8 : ¬ (nr ≤ i) := (not_congr (nI_lex (by rfl) (by rfl) (by omega) (by omega))).mp c_8
        refine lv_aload_n hx hb dX4_isSplit_16 rfl (lv_at hl 2 rfl) ?_
        refine lv_iload_n hx hb dX4_isSplit_17 rfl (lv_at hl 0 rfl) ?_
        refine lv_iload_n hx hb dX4_isSplit_18 rfl (lv_at hl 0 rfl) ?_
        refine h_iast hx hb hK hw hc10_q_1 i rfl (by omega) (by omega) dX4_isSplit_19 (fun H_36 L_37 hw => ?_)
        obtain ⟨ah_38, eah_38⟩ : ∃ z9 : hA, z9 = hup ah10 q_1 (.inl (dT 0, nr, .inl (upd (idF i) i (nI i)))) := ⟨_, rfl⟩
        have hw : hW D ah s.heap ah_38 H_36 L_37 := by rw [eah_38]; exact hw
        have hc_39 := (show ah_38 pg = _ from (by rw [eah_38]; exact hup_n (hne_5))).trans hc10_pg
        have hc_40 := (show ah_38 ra = _ from (by rw [eah_38]; exact hup_n (hne_7))).trans hc10_ra
        have hc_41 : ah_38 q_1 = some (.inl (dT 0, nr, .inl (upd (idF i) i (nI i)))) := by rw [eah_38]; exact hup_s
        refine lv_iinc (v := nI (i + 1)) (lv' := [(2, .int (nI (i + 1))), (0, .ref pg), (1, .ref q_1)]) hx hb dX4_isSplit_20 hl (k := 0) rfl (nI_c _ 1) (by decide) rfl (fun ls hl => ?_)
        refine lv_goto (tgt := 10) hx hb dX4_isSplit_23 (by decide) ?_
        exact ih10 (i + 1) ah_38 ls _ _ (by omega) hc_39 hc_40 (by rw [idF_s]; exact hc_41) (by omega) (by rw [eah_38]; exact plA_up hc10_q_1 hp10) (by rw [eah_38, eq10, hup_hup, idF_s]) (lv_sub hl [0, 1, 2] rfl) hw
  exact LP10 ((nr - 0) + 1) 0 ah_3 ls _ _ (Nat.lt_succ_self _) hc_4 hc_6 (by rw [idF_0]; exact hc_q_1) (by omega) (by rw [eah_3]; exact plA_new hqq_1 hp9) (by rw [eah_3, idF_0]) (lv_sub hl [0, 2, 1] rfl) hw

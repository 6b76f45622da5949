/-! THE HEAP AS A FUNCTION: what each address holds, as far as it is known. One such function stands for all that class, reference and law have made; a write changes it at one address, so nothing has to be cut out and joined again at a call. -/
abbrev hA : Type := Nat → Option va_E
def hup (ah : hA) (a : Nat) (e : va_E) : hA := fun q => if q = a then some e else ah q
theorem hup_s {ah : hA} {a : Nat} {e : va_E} : hup ah a e a = some e := if_pos rfl
theorem hup_n {ah : hA} {a q : Nat} {e : va_E} (h : q ≠ a) : hup ah a e q = ah q := if_neg h
theorem hup_hup {ah : hA} {a : Nat} {e e' : va_E} : hup (hup ah a e) a e' = hup ah a e' := by
  funext q
  by_cases h : q = a
  · rw [h, hup_s, hup_s]
  · rw [hup_n h, hup_n h, hup_n h]
theorem hup_comm {ah : hA} {a b : Nat} {e e' : va_E} (h : a ≠ b) : hup (hup ah a e) b e' = hup (hup ah b e') a e := by
  funext q
  by_cases h1 : q = a
  · subst h1; rw [hup_n h, hup_s, hup_s]
  · by_cases h2 : q = b
    · subst h2; rw [hup_s, hup_n h1, hup_s]
    · rw [hup_n h2, hup_n h1, hup_n h1, hup_n h2]
theorem hup_id {ah : hA} {a : Nat} {e : va_E} (h : ah a = some e) : hup ah a e = ah := by
  funext q
  by_cases h1 : q = a
  · subst h1; rw [hup_s, h]
  · rw [hup_n h1]
def hHd (D : va_G) (ah : hA) (H : Heap) : Prop := ∀ (a : Nat) (e : va_E), ah a = some e → va_at D vwCl (a, e) H
def hFr (ah : hA) (sz : Nat) : Nat → Prop := fun q => (∃ e, ah q = some e) ∨ sz ≤ q
def hW (D : va_G) (ah0 : hA) (H0 : Heap) (ah : hA) (H : Heap) (locs : List Loc) : Prop :=
  hHd D ah H ∧ va_S (hFr ah0 H0.size) H0 H locs ∧ ∀ (q : Nat) (e : va_E), ah q = some e → hFr ah0 H0.size q
/-- the array classes that are used: int, long, and three of references -/
def hTy (dT : Nat → ClassId) : List (ClassId × FieldType) := [(dT 0, .int), (dT 1, .long), (dT 2, .object RX7), (dT 3, .object RX5), (dT 4, .object RX4)]
def hN : List Cond := [.fieldLinkNest RX3 68 "ShapeJudge$Box" "lowX" "I" "ShapeJudge", .fieldLinkNest RX3 76 "ShapeJudge$Box" "lowY" "I" "ShapeJudge", .fieldLinkNest RX3 79 "ShapeJudge$Box" "highX" "I" "ShapeJudge", .fieldLinkNest RX3 85 "ShapeJudge$Box" "highY" "I" "ShapeJudge", .fieldLinkNest RX2 102 "ShapeJudge$Ring" "part" "I" "ShapeJudge", .fieldLinkNest RX2 136 "ShapeJudge$Ring" "number" "I" "ShapeJudge", .fieldLinkNest RX4 40 "ShapeJudge$Ring" "box" "LShapeJudge$Box;" "ShapeJudge", .fieldLinkNest RX2 117 "ShapeJudge$Ring" "box" "LShapeJudge$Box;" "ShapeJudge", .fieldLinkNest RX4 28 "ShapeJudge$Ring" "segments" "[LShapeJudge$Segment;" "ShapeJudge", .fieldLinkNest RX2 103 "ShapeJudge$Ring" "segments" "[LShapeJudge$Segment;" "ShapeJudge", .fieldLinkNest RX4 25 "ShapeJudge$Ring" "count" "I" "ShapeJudge", .fieldLinkNest RX2 99 "ShapeJudge$Ring" "count" "I" "ShapeJudge", .fieldLinkNest RX2 85 "ShapeJudge$Ring" "closed" "Z" "ShapeJudge", .fieldLinkNest RX8 101 "ShapeJudge$Ring" "closed" "Z" "ShapeJudge", .fieldLinkNest RX2 89 "ShapeJudge$Ring" "differentPoints" "I" "ShapeJudge", .fieldLinkNest RX8 105 "ShapeJudge$Ring" "differentPoints" "I" "ShapeJudge", .fieldLinkNest RX3 15 "ShapeJudge$Segment" "ring" "LShapeJudge$Ring;" "ShapeJudge", .fieldLinkNest RX2 132 "ShapeJudge$Segment" "ring" "LShapeJudge$Ring;" "ShapeJudge", .fieldLinkNest RX2 139 "ShapeJudge$Segment" "number" "I" "ShapeJudge", .fieldLinkNest RX5 42 "ShapeJudge$Segment" "fromX" "I" "ShapeJudge", .fieldLinkNest RX3 39 "ShapeJudge$Segment" "fromX" "I" "ShapeJudge", .fieldLinkNest RX4 44 "ShapeJudge$Segment" "fromX" "I" "ShapeJudge", .fieldLinkNest RX5 45 "ShapeJudge$Segment" "fromY" "I" "ShapeJudge", .fieldLinkNest RX3 43 "ShapeJudge$Segment" "fromY" "I" "ShapeJudge", .fieldLinkNest RX4 49 "ShapeJudge$Segment" "fromY" "I" "ShapeJudge", .fieldLinkNest RX5 52 "ShapeJudge$Segment" "toX" "I" "ShapeJudge", .fieldLinkNest RX3 50 "ShapeJudge$Segment" "toX" "I" "ShapeJudge", .fieldLinkNest RX5 55 "ShapeJudge$Segment" "toY" "I" "ShapeJudge", .fieldLinkNest RX3 53 "ShapeJudge$Segment" "toY" "I" "ShapeJudge", .fieldLinkNest RX3 29 "ShapeJudge$Segment" "box" "LShapeJudge$Box;" "ShapeJudge", .fieldLinkNest RX2 111 "ShapeJudge$Segment" "box" "LShapeJudge$Box;" "ShapeJudge", .fieldLinkNest RX5 38 "ShapeJudge$Segment" "next" "LShapeJudge$Segment;" "ShapeJudge", .fieldLinkNest RX3 98 "ShapeJudge$Segment" "next" "LShapeJudge$Segment;" "ShapeJudge", .fieldLinkNest RX2 92 "ShapeJudge$Polygon" "part" "I" "ShapeJudge", .fieldLinkNest RX2 47 "ShapeJudge$Polygon" "rings" "[LShapeJudge$Ring;" "ShapeJudge", .methodLinkNest RX9 9 yX8_init "ShapeJudge", .methodLinkNest RX8 11 yX6_init "ShapeJudge", .methodLinkNest RX2 21 yX3_init "ShapeJudge", .methodLinkNest RX5 18 yX0_init "ShapeJudge", .methodLinkNest RX7 31 yX0_init "ShapeJudge"]
def hNest (w : Cond) : Bool := match w with
  | .fieldLinkNest .. => true
  | .methodLinkNest .. => true
  | _ => false
theorem hN_ok : hN.all hNest = true := by decide +kernel
theorem hNest.warm {w : Cond} (hw : hNest w = true) {s U : State} (hW : s.WarmedH U.vm) (h : va_Nw w s) : va_Nw w U := by
  cases w <;> first | (exact va_Nw.warmF hW h) | (exact va_Nw.warmM hW h) | (simp [hNest] at hw)
theorem hNest.same {w : Cond} (hw : hNest w = true) {s U : State} (hvm : s.vm = U.vm) (h : va_Nw w s) : va_Nw w U := by
  cases w <;> first | (exact va_Nw.same rfl hvm h) | (simp [hNest] at hw)
/-- what is known of the tables: classes, array classes, the links among nest mates, what anewarray asks -/
def hC (D : va_G) (dT : Nat → ClassId) (s : State) : Prop := va_K D vwCl (hTy dT) s ∧ (∀ w ∈ hN, va_Nw w s) ∧ va_AO RX7 s ∧ va_AO RX5 s ∧ va_AO RX4 s
theorem hC.warm {D : va_G} {dT : Nat → ClassId} {u U : State} (hW : u.WarmedH U.vm) (h : hC D dT u) : hC D dT U :=
  ⟨va_K.moved hW.alike h.1, fun w hw => hNest.warm (List.all_eq_true.mp hN_ok w hw) hW (h.2.1 w hw), va_AO.moved hW.alike h.2.2.1, va_AO.moved hW.alike h.2.2.2.1, va_AO.moved hW.alike h.2.2.2.2⟩
theorem hC.same {D : va_G} {dT : Nat → ClassId} {u U : State} (hvm : u.vm = U.vm) (h : hC D dT u) : hC D dT U :=
  have ha : u.vm.Alike U.vm := by rw [hvm]; exact Vm.Alike.refl _
  ⟨va_K.moved ha h.1, fun w hw => hNest.same (List.all_eq_true.mp hN_ok w hw) hvm (h.2.1 w hw), va_AO.moved ha h.2.2.1, va_AO.moved ha h.2.2.2.1, va_AO.moved ha h.2.2.2.2⟩
theorem h_one {D : va_G} {H : Heap} {a : Nat} {e : va_E} (h : va_at D vwCl (a, e) H) : va_P D vwCl [(a, e)] H := fun k q hk => by
  match k, hk with
  | 0, hk => cases hk; exact h
  | k + 1, hk => simp at hk
theorem hHd.fresh {D : va_G} {ah : hA} {H : Heap} (h : hHd D ah H) {q : Nat} (hq : H.size ≤ q) : ah q = none := by
  cases he : ah q with
  | none => rfl
  | some e => exact absurd (h q e he).lt (Nat.not_lt.mpr hq)
theorem hW.rf {D : va_G} {ah : hA} {H : Heap} (h : hHd D ah H) : hW D ah H ah H [] := ⟨h, va_S.rf, fun _ e he => Or.inl ⟨e, he⟩⟩
theorem hFr.up {D : va_G} {ah0 ah : hA} {H0 H : Heap} {locs : List Loc} (hw : hW D ah0 H0 ah H locs) {q : Nat} (h : hFr ah H.size q) : hFr ah0 H0.size q :=
  h.elim (fun ⟨e, he⟩ => hw.2.2 q e he) (fun h => Or.inr (Nat.le_trans hw.2.1.1 h))
theorem hW.put {D : va_G} {ah0 ah : hA} {H0 H H1 : Heap} {locs : List Loc} {a i : Nat} {e0 e : va_E} (hw : hW D ah0 H0 ah H locs) (he : ah a = some e0) (z : H1.size = H.size) (o : ∀ q : Nat, q ≠ a → H1[q]? = H[q]?) (hat : va_at D vwCl (a, e) H1) :
    hW D ah0 H0 (hup ah a e) H1 (locs ++ [⟨a, i⟩]) := by
  refine ⟨fun q e' hq => ?_, hw.2.1.put z o (hw.2.2 a _ he), fun q e' hq => ?_⟩
  · by_cases h : q = a
    · subst h; rw [hup_s] at hq; cases hq; exact hat
    · rw [hup_n h] at hq; exact (hw.1 q e' hq).kept (o q h)
  · by_cases h : q = a
    · subst h; exact hw.2.2 q _ he
    · rw [hup_n h] at hq; exact hw.2.2 q e' hq
theorem hW.push {D : va_G} {ah0 ah : hA} {H0 H H1 : Heap} {locs : List Loc} {e : va_E} (hw : hW D ah0 H0 ah H locs) (z : H1.size = H.size + 1) (o : ∀ q : Nat, q < H.size → H1[q]? = H[q]?) (hat : va_at D vwCl (H.size, e) H1) :
    hW D ah0 H0 (hup ah H.size e) H1 locs := by
  have hS := hw.2.1
  refine ⟨fun q e' hq => ?_, ⟨Nat.le_trans hS.1 (by omega), fun q h1 h2 => (o q (Nat.lt_of_lt_of_le h1 hS.1)).trans (hS.2.1 q h1 h2), hS.2.2⟩, fun q e' hq => ?_⟩
  · by_cases h : q = H.size
    · subst h; rw [hup_s] at hq; cases hq; exact hat
    · rw [hup_n h] at hq; exact (hw.1 q e' hq).kept (o q (hw.1 q e' hq).lt)
  · by_cases h : q = H.size
    · subst h; exact Or.inr hS.1
    · rw [hup_n h] at hq; exact hw.2.2 q e' hq
section HROWS
variable {p : Program} {l : Launch} {e : Env} {R : Room} {s : State} {m : MethodId} {args : Array Value} {below : List Frame} {meth : Method} {c : Code} {H : Heap} {locs : List Loc} {cells slots : Nat} {Q : State → Prop}
variable {cc : ByteArray} {pc : Nat} {ls : Array Slot} {rest : List Value} {D : va_G} {dT : Nat → ClassId} {ah0 ah : hA} {H0 : Heap} {a : Nat}
theorem h_get (hexec : p.tables.exec = Jvm.exec) (hb : c.code = cc) {own ref C : String} {T : u_T} {N ci index : Nat} {Ts : List Cond} (hts : ∀ w ∈ Ts, w.before args s = true) (hin : ∀ w ∈ u_ws C T N, w ∈ Ts) (hown : s.vm.findClass own = some m.cls) (hK : hC D dT s) (hw : hW D ah0 H0 ah H locs) {fs : List Value} (he : ah a = some (.inr (ci, fs))) (hc : vwCl[ci]? = some (C, T, N)) (k : Nat) (hk : k < N) (hlink : (Cond.fieldLink own index ref (T k).2.1 (T k).2.2.1).before args s = true) (href : (T k).1 = ref) {v : Value} (hv : fs[k]? = some v) (hdg : decode cc pc = .ok (.getfield index, 3))
    (kk : W p l e R s m args below meth c H locs cells slots Q (F0 m (pc + 3) ls (v :: rest))) : W p l e R s m args below meth c H locs cells slots Q (F0 m pc ls (.ref a :: rest)) :=
  va_get hexec hb hts hin hown hK.1 (h_one (hw.1 a _ he)) 0 rfl hc k hk hlink (fun _ h => href ▸ h) hv hdg kk
theorem h_getN (hexec : p.tables.exec = Jvm.exec) (hb : c.code = cc) {own ref C host : String} {T : u_T} {N ci index : Nat} {Ts : List Cond} (hts : ∀ w ∈ Ts, w.before args s = true) (hin : ∀ w ∈ u_ws C T N, w ∈ Ts) (hown : s.vm.findClass own = some m.cls) (hK : hC D dT s) (hw : hW D ah0 H0 ah H locs) {fs : List Value} (he : ah a = some (.inr (ci, fs))) (hc : vwCl[ci]? = some (C, T, N)) (k : Nat) (hk : k < N) (hlink : (Cond.fieldLinkNest own index ref (T k).2.1 (T k).2.2.1 host).before args s = true) (href : (T k).1 = ref) {v : Value} (hv : fs[k]? = some v) (hdg : decode cc pc = .ok (.getfield index, 3))
    (kk : W p l e R s m args below meth c H locs cells slots Q (F0 m (pc + 3) ls (v :: rest))) : W p l e R s m args below meth c H locs cells slots Q (F0 m pc ls (.ref a :: rest)) :=
  va_getN hexec hb hts hin hown hK.1 (h_one (hw.1 a _ he)) 0 rfl hc k hk hlink (fun _ h => href ▸ h) hv hdg kk
theorem h_put (hexec : p.tables.exec = Jvm.exec) (hb : c.code = cc) {own ref C : String} {T : u_T} {N ci index : Nat} {Ts : List Cond} (hts : ∀ w ∈ Ts, w.before args s = true) (hin : ∀ w ∈ u_ws C T N, w ∈ Ts) (ty0 : Nat → FieldType) (hty : ∀ k, k < N → parseFieldDescriptor (T k).2.2.1 = some (ty0 k)) (hnm : ∀ a, a < N → ∀ b, b < N → a ≠ b → (T a).2.1 ≠ (T b).2.1) (hown : s.vm.findClass own = some m.cls) (hK : hC D dT s) (hw : hW D ah0 H0 ah H locs) {fs : List Value} (he : ah a = some (.inr (ci, fs))) (hc : vwCl[ci]? = some (C, T, N)) (k : Nat) (hk : k < N) (hlink : (Cond.fieldLink own index ref (T k).2.1 (T k).2.2.1).before args s = true) (href : (T k).1 = ref) (hfin : (T k).2.2.2 = false) {ty : FieldType} {v : Value} (hd : parseFieldDescriptor (T k).2.2.1 = some ty) (hn : narrow ty v = v) (hfit : fits ty v = true) (hl : k < fs.length)
    (hdg : decode cc pc = .ok (.putfield index, 3)) (kk : ∀ (H1 : Heap) (locs1 : List Loc), hW D ah0 H0 (hup ah a (.inr (ci, fs.set k v))) H1 locs1 → W p l e R s m args below meth c H1 locs1 cells slots Q (F0 m (pc + 3) ls rest)) : W p l e R s m args below meth c H locs cells slots Q (F0 m pc ls (v :: .ref a :: rest)) := by
  have hap := va_apart (own := own) hts hin ty0 hty hnm hK.1 hc
  obtain ⟨r, h1, cell, q1, q2, q3, q4⟩ := hw.1 a _ he
  have hr : r = (C, T, N) := Option.some.inj (h1.symm.trans hc)
  subst hr
  obtain ⟨hS, hfc, kC, hkC, hkind⟩ := hK.1.1 ci _ hc
  obtain ⟨cf, kf, fi, f, hi, hsl⟩ := hS k hk
  have hlay := hts _ (hin _ (u_in_lay hk))
  unfold u_lay at hlay
  rw [if_neg (by rw [hfin]; decide)] at hlay
  have hst := (u_facts hfc hkC (u_lays hts hin hk) hi).1
  have h6 := u_store hfc hkC hkind hlay hi hd hn hfit
  refine W.putK hexec hb (f := f) ⟨hown, hlink, ⟨_, _, _, href ▸ hi⟩, hst⟩ (by rw [q2]; exact h6) q1 q3 (by rw [hsl]; exact k2_hasslot (q4 k hk)) rfl rfl hdg fun H' e1 e2 e3 => ?_
  rw [hsl] at e1 ⊢
  exact kk H' _ (hw.put he e2 e3 ⟨_, hc, t_OB.to (V := updV (vp_V fs) k v) ⟨_, e1, q2, q3, t_set q4 hap hk v⟩ (fun j _ => vp_updV_set hl v j)⟩)
theorem h_putN (hexec : p.tables.exec = Jvm.exec) (hb : c.code = cc) {own ref C host : String} {T : u_T} {N ci index : Nat} {Ts : List Cond} (hts : ∀ w ∈ Ts, w.before args s = true) (hin : ∀ w ∈ u_ws C T N, w ∈ Ts) (ty0 : Nat → FieldType) (hty : ∀ k, k < N → parseFieldDescriptor (T k).2.2.1 = some (ty0 k)) (hnm : ∀ a, a < N → ∀ b, b < N → a ≠ b → (T a).2.1 ≠ (T b).2.1) (hown : s.vm.findClass own = some m.cls) (hK : hC D dT s) (hw : hW D ah0 H0 ah H locs) {fs : List Value} (he : ah a = some (.inr (ci, fs))) (hc : vwCl[ci]? = some (C, T, N)) (k : Nat) (hk : k < N) (hlink : (Cond.fieldLinkNest own index ref (T k).2.1 (T k).2.2.1 host).before args s = true) (href : (T k).1 = ref) (hfin : (T k).2.2.2 = false) {ty : FieldType} {v : Value} (hd : parseFieldDescriptor (T k).2.2.1 = some ty) (hn : narrow ty v = v) (hfit : fits ty v = true) (hl : k < fs.length)
    (hdg : decode cc pc = .ok (.putfield index, 3)) (kk : ∀ (H1 : Heap) (locs1 : List Loc), hW D ah0 H0 (hup ah a (.inr (ci, fs.set k v))) H1 locs1 → W p l e R s m args below meth c H1 locs1 cells slots Q (F0 m (pc + 3) ls rest)) : W p l e R s m args below meth c H locs cells slots Q (F0 m pc ls (v :: .ref a :: rest)) := by
  have hap := va_apart (own := own) hts hin ty0 hty hnm hK.1 hc
  obtain ⟨r, h1, cell, q1, q2, q3, q4⟩ := hw.1 a _ he
  have hr : r = (C, T, N) := Option.some.inj (h1.symm.trans hc)
  subst hr
  obtain ⟨hS, hfc, kC, hkC, hkind⟩ := hK.1.1 ci _ hc
  obtain ⟨cf, kf, fi, f, hi, hsl⟩ := hS k hk
  have hlay := hts _ (hin _ (u_in_lay hk))
  unfold u_lay at hlay
  rw [if_neg (by rw [hfin]; decide)] at hlay
  have hst := (u_facts hfc hkC (u_lays hts hin hk) hi).1
  have h6 := u_store hfc hkC hkind hlay hi hd hn hfit
  refine va_WputK hexec hb (f := f) hown hlink (href ▸ hi) hst (by rw [q2]; exact h6) q1 q3 (by rw [hsl]; exact k2_hasslot (q4 k hk)) rfl rfl hdg fun H' e1 e2 e3 => ?_
  rw [hsl] at e1 ⊢
  exact kk H' _ (hw.put he e2 e3 ⟨_, hc, t_OB.to (V := updV (vp_V fs) k v) ⟨_, e1, q2, q3, t_set q4 hap hk v⟩ (fun j _ => vp_updV_set hl v j)⟩)
theorem h_putF (hexec : p.tables.exec = Jvm.exec) (hb : c.code = cc) {own ref C : String} {T : u_T} {N ci index : Nat} {Ts : List Cond} (hts : ∀ w ∈ Ts, w.before args s = true) (hin : ∀ w ∈ u_ws C T N, w ∈ Ts) (ty0 : Nat → FieldType) (hty : ∀ k, k < N → parseFieldDescriptor (T k).2.2.1 = some (ty0 k)) (hnm : ∀ a, a < N → ∀ b, b < N → a ≠ b → (T a).2.1 ≠ (T b).2.1) (hown : s.vm.findClass own = some m.cls) (hK : hC D dT s) (hw : hW D ah0 H0 ah H locs) {fs : List Value} (he : ah a = some (.inr (ci, fs))) (hc : vwCl[ci]? = some (C, T, N)) (k : Nat) (hk : k < N) (hlink : (Cond.fieldLink own index ref (T k).2.1 (T k).2.2.1).before args s = true) (href : (T k).1 = ref) (hfin : (T k).2.2.2 = true) (hin2 : meth.name = "<init>") (hdecl : (T k).1 = own) {ty : FieldType} {v : Value} (hd : parseFieldDescriptor (T k).2.2.1 = some ty) (hn : narrow ty v = v) (hfit : fits ty v = true) (hl : k < fs.length)
    (hdg : decode cc pc = .ok (.putfield index, 3)) (kk : ∀ (H1 : Heap) (locs1 : List Loc), hW D ah0 H0 (hup ah a (.inr (ci, fs.set k v))) H1 locs1 → W p l e R s m args below meth c H1 locs1 cells slots Q (F0 m (pc + 3) ls rest)) : W p l e R s m args below meth c H locs cells slots Q (F0 m pc ls (v :: .ref a :: rest)) := by
  have hap := va_apart (own := own) hts hin ty0 hty hnm hK.1 hc
  obtain ⟨r, h1, cell, q1, q2, q3, q4⟩ := hw.1 a _ he
  have hr : r = (C, T, N) := Option.some.inj (h1.symm.trans hc)
  subst hr
  obtain ⟨hS, hfc, kC, hkC, hkind⟩ := hK.1.1 ci _ hc
  obtain ⟨cf, kf, fi, f, hi, hsl⟩ := hS k hk
  have hlay := hts _ (hin _ (u_in_lay hk))
  unfold u_lay at hlay
  rw [if_pos hfin] at hlay
  have hst := (u_facts hfc hkC (u_lays hts hin hk) hi).1
  have hcf : m.cls = cf := by
    obtain ⟨_, _, c', _, _, _, -, -, hf', -, -, -, hown2, -⟩ := Cond.laysFinal_spec hlay
    have e1 : c' = cf := by have := hi.symm.trans hf'; simp at this; exact this.1.symm
    rw [hdecl] at hown2
    rw [← e1]; exact Option.some.inj (hown.symm.trans hown2)
  have h6 := u_fits hfc hkC hkind (Or.inr hlay) hi hd hn hfit
  refine W.putFinK hexec hb hown hlink (href ▸ hi) hst hcf hin2 (by rw [q2]; exact h6) q1 q3 (by rw [hsl]; exact k2_hasslot (q4 k hk)) rfl rfl hdg fun H' e1 e2 e3 => ?_
  rw [hsl] at e1 ⊢
  exact kk H' _ (hw.put he e2 e3 ⟨_, hc, t_OB.to (V := updV (vp_V fs) k v) ⟨_, e1, q2, q3, t_set q4 hap hk v⟩ (fun j _ => vp_updV_set hl v j)⟩)
theorem h_iald (hexec : p.tables.exec = Jvm.exec) (hb : c.code = cc) (hK : hC D dT s) (hw : hW D ah0 H0 ah H locs) {n : Nat} {f : Nat → Int32} (ha : ah a = some (.inl (dT 0, n, .inl f))) {i : Int32} (j : Nat) (hj : i = nI j) (hjn : j < n) (hn : n < 2 ^ 31) (hdg : decode cc pc = .ok (.iaload, 1))
    (kk : W p l e R s m args below meth c H locs cells slots Q (F0 m (pc + 1) ls (.int (f j) :: rest))) : W p l e R s m args below meth c H locs cells slots Q (F0 m pc ls (.int i :: .ref a :: rest)) := by
  subst hj
  refine va_iald hexec hb hK.1 (h_one (hw.1 a _ ha)) 0 0 rfl rfl (vp_in_nI hjn hn) hdg ?_
  rw [nI_clamp (by omega)]
  exact kk
theorem h_lald (hexec : p.tables.exec = Jvm.exec) (hb : c.code = cc) (hK : hC D dT s) (hw : hW D ah0 H0 ah H locs) {n : Nat} {f : Nat → Int64} (ha : ah a = some (.inl (dT 1, n, .inr (.inl f)))) {i : Int32} (j : Nat) (hj : i = nI j) (hjn : j < n) (hn : n < 2 ^ 31) (hdg : decode cc pc = .ok (.laload, 1))
    (kk : W p l e R s m args below meth c H locs cells slots Q (F0 m (pc + 1) ls (.long (f j) :: rest))) : W p l e R s m args below meth c H locs cells slots Q (F0 m pc ls (.int i :: .ref a :: rest)) := by
  subst hj
  refine va_lald hexec hb hK.1 (h_one (hw.1 a _ ha)) 0 1 rfl rfl (vp_in_nI hjn hn) hdg ?_
  rw [nI_clamp (by omega)]
  exact kk
theorem h_aald (hexec : p.tables.exec = Jvm.exec) (hb : c.code = cc) (hK : hC D dT s) (hw : hW D ah0 H0 ah H locs) (t0 : Nat) {C : String} (ht : (hTy dT)[t0]? = some (dT t0, .object C)) {n : Nat} {f : Nat → Option Nat} (ha : ah a = some (.inl (dT t0, n, .inr (.inr (.inr (.inr f)))))) {i : Int32} (j : Nat) (hj : i = nI j) (hjn : j < n) (hn : n < 2 ^ 31) {b : Nat} (hf : f j = some b) (hdg : decode cc pc = .ok (.aaload, 1))
    (kk : W p l e R s m args below meth c H locs cells slots Q (F0 m (pc + 1) ls (.ref b :: rest))) : W p l e R s m args below meth c H locs cells slots Q (F0 m pc ls (.int i :: .ref a :: rest)) := by
  subst hj
  refine va_aldq (C := C) hexec hb hK.1 (h_one (hw.1 a _ ha)) 0 t0 rfl ht (vp_in_nI hjn hn) hdg ?_
  rw [nI_clamp (by omega), hf]
  exact kk
theorem h_alen (hexec : p.tables.exec = Jvm.exec) (hb : c.code = cc) (hK : hC D dT s) (hw : hW D ah0 H0 ah H locs) (t0 : Nat) {ty : FieldType} (ht : (hTy dT)[t0]? = some (dT t0, ty)) {x : vp_A} (ha : ah a = some (.inl (dT t0, x))) (hdg : decode cc pc = .ok (.arraylength, 1))
    (kk : W p l e R s m args below meth c H locs cells slots Q (F0 m (pc + 1) ls (.int (nI x.1) :: rest))) : W p l e R s m args below meth c H locs cells slots Q (F0 m pc ls (.ref a :: rest)) :=
  va_alen hexec hb hK.1 (h_one (hw.1 a _ ha)) 0 t0 rfl ht rfl hdg kk
theorem h_iast (hexec : p.tables.exec = Jvm.exec) (hb : c.code = cc) (hK : hC D dT s) (hw : hW D ah0 H0 ah H locs) {n : Nat} {f : Nat → Int32} (ha : ah a = some (.inl (dT 0, n, .inl f))) {i x : Int32} (j : Nat) (hj : i = nI j) (hjn : j < n) (hn : n < 2 ^ 31) (hdg : decode cc pc = .ok (.iastore, 1))
    (kk : ∀ (H1 : Heap) (locs1 : List Loc), hW D ah0 H0 (hup ah a (.inl (dT 0, n, .inl (upd f j x)))) H1 locs1 → W p l e R s m args below meth c H1 locs1 cells slots Q (F0 m (pc + 1) ls rest)) : W p l e R s m args below meth c H locs cells slots Q (F0 m pc ls (.int x :: .int i :: .ref a :: rest)) := by
  subst hj
  refine W.iast hexec hb (hw.1 a _ ha) ((hK.1.2 0 _ rfl).1 n (fun j => .int (f j))) (fun q => by cases q) (by show ¬ (_ < 0 ∨ (arrV _ _ _).slots.size ≤ _); rw [arrV_size]; exact vp_in_nI hjn hn) rfl rfl hdg fun H1 e z oq => ?_
  refine kk H1 _ (hw.put ha z oq ?_)
  show H1[a]? = some (vp_cell _ _)
  rw [e, nI_clamp (by omega), vp_cell_i, vp_cell_i, arrV_store]
  congr 2
  funext q
  by_cases hq : q = j
  · subst hq; simp [updV, upd]
  · simp [updV, upd, hq]
theorem h_last (hexec : p.tables.exec = Jvm.exec) (hb : c.code = cc) (hK : hC D dT s) (hw : hW D ah0 H0 ah H locs) {n : Nat} {f : Nat → Int64} (ha : ah a = some (.inl (dT 1, n, .inr (.inl f)))) {i : Int32} {x : Int64} (j : Nat) (hj : i = nI j) (hjn : j < n) (hn : n < 2 ^ 31) (hdg : decode cc pc = .ok (.lastore, 1))
    (kk : ∀ (H1 : Heap) (locs1 : List Loc), hW D ah0 H0 (hup ah a (.inl (dT 1, n, .inr (.inl (vp_updL f j x))))) H1 locs1 → W p l e R s m args below meth c H1 locs1 cells slots Q (F0 m (pc + 1) ls rest)) : W p l e R s m args below meth c H locs cells slots Q (F0 m pc ls (.long x :: .int i :: .ref a :: rest)) := by
  subst hj
  refine W.last hexec hb (hw.1 a _ ha) ((hK.1.2 1 _ rfl).1 n (fun j => .long (f j))) (fun q => by cases q) (by show ¬ (_ < 0 ∨ (arrV _ _ _).slots.size ≤ _); rw [arrV_size]; exact vp_in_nI hjn hn) rfl rfl hdg fun H1 e z oq => ?_
  refine kk H1 _ (hw.put ha z oq ?_)
  show H1[a]? = some (vp_cell _ _)
  rw [e, nI_clamp (by omega), vp_cell_l, vp_cell_l, arrV_store]
  congr 2
  funext q
  by_cases hq : q = j
  · subst hq; simp [updV, vp_updL]
  · simp [updV, vp_updL, hq]
theorem h_aast (hexec : p.tables.exec = Jvm.exec) (hb : c.code = cc) (hK : hC D dT s) (hw : hW D ah0 H0 ah H locs) (t0 ci : Nat) {r : vw_C} {n v : Nat} {vs : List Value} {f : Nat → Option Nat} (ha : ah a = some (.inl (dT t0, n, .inr (.inr (.inr (.inr f)))))) (ht : (hTy dT)[t0]? = some (dT t0, .object r.1)) (hv : ah v = some (.inr (ci, vs))) (hc : vwCl[ci]? = some r) {i : Int32} (j : Nat) (hj : i = nI j) (hjn : j < n) (hn : n < 2 ^ 31) (hdg : decode cc pc = .ok (.aastore, 1))
    (kk : ∀ (H1 : Heap) (locs1 : List Loc), hW D ah0 H0 (hup ah a (.inl (dT t0, n, .inr (.inr (.inr (.inr (va_up f j (some v)))))))) H1 locs1 → W p l e R s m args below meth c H1 locs1 cells slots Q (F0 m (pc + 1) ls rest)) : W p l e R s m args below meth c H locs cells slots Q (F0 m pc ls (.ref v :: .int i :: .ref a :: rest)) := by
  subst hj
  have hin := vp_in_nI hjn hn
  have hlt : (nI j).toNatClampNeg < n := Nat.not_le.mp fun q => hin (Or.inr q)
  have h0 : ¬ nI j < 0 := fun q => hin (Or.inl q)
  obtain ⟨r', hr', cellV, g1, g2, g3, -⟩ := hw.1 v _ hv
  have hcls := (hK.1.1 ci r hc).2
  obtain ⟨kA, comp, k1, k2, k3, -⟩ := (hK.1.2 t0 _ ht).2
  have hcomp : comp = D.1 ci := Option.some.inj (k3.symm.trans hcls.1)
  subst hcomp
  obtain ⟨kC, hkC, -⟩ := hcls.2
  refine W.aast hexec hb (hw.1 a _ ha) (fun q h => by cases h) (fun h => by cases h) k1 k2 rfl hkC ⟨h0, by show _ < (arrV _ _ _).slots.size; rw [arrV_size]; exact hlt⟩ g1 (fun q h => by rw [g3] at h; cases h) (by rw [g2]; exact hkC) (by rw [g2]; exact va_assign hcls) rfl rfl hdg fun H1 e z oq => ?_
  refine kk H1 _ (hw.put ha z oq ?_)
  show H1[a]? = some (vp_cell _ _)
  rw [e, nI_clamp (by omega), vp_cell_q, vp_cell_q, arrV_store]
  congr 2
  funext q
  by_cases hq : q = j
  · subst hq; simp [updV, va_up, va_rf]
  · simp [updV, va_up, hq]
theorem h_new (hexec : p.tables.exec = Jvm.exec) (hb : c.code = cc) {own C : String} {T : u_T} {N ci index : Nat} {Ts : List Cond} (hts : ∀ w ∈ Ts, w.before args s = true) (hin : ∀ w ∈ u_ws C T N, w ∈ Ts) (ty : Nat → FieldType) (hty : ∀ k, k < N → parseFieldDescriptor (T k).2.2.1 = some (ty k)) (hown : s.vm.findClass own = some m.cls) (hcl : (Cond.classLink own index C).before args s = true) (hinst : (Cond.instantiable C N).before args s = true) (hini : (Cond.initialized C).before args s = true)
    (hK : hC D dT s) (hw : hW D ah0 H0 ah H locs) (hc : vwCl[ci]? = some (C, T, N)) {fs : List Value} (hfs : ∀ j, j < N → defaultValue (ty j) = vp_V fs j) (hcells : cells + 1 ≤ R.cells) (hslots : slots + N ≤ R.slots) (hdg : decode cc pc = .ok (.new index, 3))
    (kk : ∀ (q : Nat) (H1 : Heap), ah q = none → hW D ah0 H0 (hup ah q (.inr (ci, fs))) H1 locs → W p l e R s m args below meth c H1 locs (cells + 1) (slots + N) Q (F0 m (pc + 3) ls (.ref q :: rest))) : W p l e R s m args below meth c H locs cells slots Q (F0 m pc ls rest) := by
  have hKn := hK.1.1 ci _ hc
  refine W.newcK hexec hb hown hcl hinst hini rfl hdg hcells hslots hKn.2.1 rfl fun H1 kC hkC e1 z1 o1 => ?_
  exact kk H.size H1 (hw.1.fresh (Nat.le_refl _)) (hw.push z1 o1 ⟨_, hc, (u_born ty hts hin hKn hkC e1 hty).to hfs⟩)
theorem h_newi (hexec : p.tables.exec = Jvm.exec) (hb : c.code = cc) (harr : (Cond.arrayClass .int).before args s = true) (hK : hC D dT s) (hw : hW D ah0 H0 ah H locs) {i : Int32} (n : Nat) (hi : i = nI n) (hn : n ≤ 100000000) (hcells : cells + 1 ≤ R.cells) (hslots : slots + n ≤ R.slots) (hdg : decode cc pc = .ok (.newarray .int, 2))
    (kk : ∀ (q : Nat) (H1 : Heap), ah q = none → hW D ah0 H0 (hup ah q (.inl (dT 0, n, .inl (fun _ => 0)))) H1 locs → W p l e R s m args below meth c H1 locs (cells + 1) (slots + n) Q (F0 m (pc + 2) ls (.ref q :: rest))) : W p l e R s m args below meth c H locs cells slots Q (F0 m pc ls (.int i :: rest)) := by
  subst hi
  refine va_newaK (atype := .int) (N := n) hexec hb harr rfl hdg rfl (nI_pos (by omega)) (nI_clamp (by omega)) (by show n * 4 ≤ _; omega) hcells hslots rfl fun H1 cA e1 z1 o1 hAr hNm => ?_
  have hcA : cA = dT 0 := Option.some.inj (hNm.symm.trans (hK.1.2 0 _ rfl).2)
  subst hcA
  refine kk H.size H1 (hw.1.fresh (Nat.le_refl _)) (hw.push z1 o1 ?_)
  show H1[H.size]? = some (vp_cell _ _)
  rw [e1, vp_cell_i]; rfl
theorem h_newl (hexec : p.tables.exec = Jvm.exec) (hb : c.code = cc) (harr : (Cond.arrayClass .long).before args s = true) (hK : hC D dT s) (hw : hW D ah0 H0 ah H locs) {i : Int32} (n : Nat) (hi : i = nI n) (hn : n ≤ 10000000) (hcells : cells + 1 ≤ R.cells) (hslots : slots + n ≤ R.slots) (hdg : decode cc pc = .ok (.newarray .long, 2))
    (kk : ∀ (q : Nat) (H1 : Heap), ah q = none → hW D ah0 H0 (hup ah q (.inl (dT 1, n, .inr (.inl (fun _ => 0))))) H1 locs → W p l e R s m args below meth c H1 locs (cells + 1) (slots + n) Q (F0 m (pc + 2) ls (.ref q :: rest))) : W p l e R s m args below meth c H locs cells slots Q (F0 m pc ls (.int i :: rest)) := by
  subst hi
  refine va_newaK (atype := .long) (N := n) hexec hb harr rfl hdg rfl (nI_pos (by omega)) (nI_clamp (by omega)) (by show n * 8 ≤ _; omega) hcells hslots rfl fun H1 cA e1 z1 o1 hAr hNm => ?_
  have hcA : cA = dT 1 := Option.some.inj (hNm.symm.trans (hK.1.2 1 _ rfl).2)
  subst hcA
  refine kk H.size H1 (hw.1.fresh (Nat.le_refl _)) (hw.push z1 o1 ?_)
  show H1[H.size]? = some (vp_cell _ _)
  rw [e1, vp_cell_l]; rfl
theorem h_newq (hexec : p.tables.exec = Jvm.exec) (hb : c.code = cc) {own C : String} {index : Nat} (hown : s.vm.findClass own = some m.cls) (hclink : (Cond.classLink own index C).before args s = true) (hover : va_AO C s) (hK : hC D dT s) (hw : hW D ah0 H0 ah H locs) (t0 : Nat) (ht : (hTy dT)[t0]? = some (dT t0, .object C)) {i : Int32} (n : Nat) (hi : i = nI n) (hn : n ≤ 100000000) (hcells : cells + 1 ≤ R.cells) (hslots : slots + n ≤ R.slots) (hdg : decode cc pc = .ok (.anewarray index, 3))
    (kk : ∀ (q : Nat) (H1 : Heap), ah q = none → hW D ah0 H0 (hup ah q (.inl (dT t0, n, .inr (.inr (.inr (.inr (fun _ => none))))))) H1 locs → W p l e R s m args below meth c H1 locs (cells + 1) (slots + n) Q (F0 m (pc + 3) ls (.ref q :: rest))) : W p l e R s m args below meth c H locs cells slots Q (F0 m pc ls (.int i :: rest)) := by
  subst hi
  have hcl : (nI n).toNatClampNeg = n := nI_clamp (by omega)
  refine W.anew hexec hb hown hclink (va_AO.use hover) rfl hdg rfl (nI_pos (by omega)) (by rw [hcl]; omega) hcells (by rw [hcl]; exact hslots) fun cA kA comp f1 f2 f3 f4 => ?_
  rw [hcl]
  generalize hH1 : H.push ({ cls := cA, slots := Array.replicate n .null, vm := .none } : Cell) = H1
  have z1 : H1.size = H.size + 1 := by rw [← hH1, Array.size_push]
  have e1 : H1[H.size]? = some (arrV cA n (fun _ => .null)) := by rw [← hH1, Array.getElem?_push_size, ← arrV_new]
  have o1 : ∀ q : Nat, q < H.size → H1[q]? = H[q]? := fun q hq => by rw [← hH1, Array.getElem?_push, if_neg (Nat.ne_of_lt hq)]
  obtain ⟨kA', comp', k1, k2, k3, k4⟩ := (hK.1.2 t0 _ ht).2
  have hcA : cA = dT t0 := Option.some.inj (f1.symm.trans k4)
  subst hcA
  refine kk H.size H1 (hw.1.fresh (Nat.le_refl _)) (hw.push z1 o1 ?_)
  show H1[H.size]? = some (vp_cell _ _)
  rw [vp_cell_q]
  exact e1
/-! CONTRACTS over such a heap. -/
def hPre (D : va_G) (dT : Nat → ClassId) (av : List Value) (ah : hA) (sz : Nat) : Array Value → State → Prop := va_Pc av (fun U => U.heap.size = sz ∧ hHd D ah U.heap ∧ hC D dT U)
def hPost (D : va_G) (ah : hA) (sz : Nat) (post : Option Value → hA → Prop) : Array Value → State → Outcome → State → Prop := fun _ st oc t =>
  ∃ (r : Option Value) (ah' : hA), oc = .returned r ∧ post r ah' ∧ hHd D ah' t.heap ∧ va_F (hFr ah sz) st t ∧ ∀ (q : Nat) (e : va_E), ah' q = some e → hFr ah sz q
/-- the method's contract: from every heap that holds ah it returns r with a heap that holds ah', post r ah'; at most mc cells of ms slots are new; nothing else is written -/
def hMet (l : Launch) (y : MethodName) (cc : ByteArray) (maxL : Nat) (ret : Option FieldType) (rm : Room) (D : va_G) (dT : Nat → ClassId) (av : List Value) (ah : hA) (sz : Nat) (post : Option Value → hA → Prop) (mc ms : Nat) : Prop :=
  Met l y (Cond.code y cc maxL ret :: hAll) rm (hPre D dT av ah sz) (hPost D ah sz post) mc ms (hFr ah sz)
theorem h_blind {av : List Value} {sz : Nat} : FrameBlind (hPre D dT av ah sz) := fun a9 U g mk q => by
  obtain ⟨q0, q1, q2, q3⟩ := q
  exact ⟨q0, q1, q2, hC.same (u := U) (U := U.calling g mk a9) rfl q3⟩
theorem h_pre (hK : hC D dT s) (hw : hW D ah0 H0 ah H locs) {av : List Value} : ∀ U : State, U.heap = H → s.WarmedH U.vm → hPre D dT av ah H.size av.toArray U := fun U hU hWm =>
  ⟨rfl, by rw [hU], by rw [hU]; exact hw.1, hC.warm hWm hK⟩
theorem h_preS (hK : hC D dT s) (hw : hW D ah0 H0 ah H locs) {av : List Value} : PreS s H (hPre D dT av ah H.size) av := ⟨h_blind, fun U hU hWm => h_pre hK hw U hU hWm⟩
theorem h_recv (hK : hC D dT s) (hw : hW D ah0 H0 ah H locs) {ci : Nat} {q : vw_C} {fs : List Value} (hc : vwCl[ci]? = some q) (he : ah a = some (.inr (ci, fs))) : ∃ cell : Cell, H[a]? = some cell ∧ cell.vm.isStatics = false ∧ s.vm.findClass q.1 = some cell.cls :=
  va_recv hK.1 (h_one (hw.1 a _ he)) hc (q0 := 0) rfl
theorem h_preV (hK : hC D dT s) (hw : hW D ah0 H0 ah H locs) {ci : Nat} {C : String} {T : u_T} {N : Nat} {fs As : List Value} (hc : vwCl[ci]? = some (C, T, N)) (he : ah a = some (.inr (ci, fs))) : PreV s H C a (hPre D dT (.ref a :: As) ah H.size) As :=
  ⟨h_blind, h_recv hK hw hc he, fun U hU hWm => h_pre hK hw U hU hWm⟩
theorem h_call {mc ms : Nat} {post : Option Value → hA → Prop} {st0 : List Value} {aa : Array Value} (hr : va_Run p l e R s m args below meth c H locs cells slots mc ms (F0 m pc ls st0) rest (hPost D ah H.size post aa) (hFr ah H.size)) (hw : hW D ah0 H0 ah H locs)
    (kk : ∀ (r : Option Value) (ah' : hA) (H1 : Heap) (locs1 : List Loc) (st1 : List Value), post r ah' → hW D ah0 H0 ah' H1 locs1 → st1 = r.toList ++ rest → W p l e R s m args below meth c H1 locs1 (cells + mc) (slots + ms) Q (F0 m (pc + 3) ls st1)) : W p l e R s m args below meth c H locs cells slots Q (F0 m pc ls st0) := by
  intro T hT X
  obtain ⟨v, st₀, t, T', L, h0, X', hL, e1, e2, ⟨r, ah', hv, hp, hh, hF, hd⟩, st⟩ := hr T hT X
  cases hv
  have hS := hw.2.1
  rw [va_F, h0] at hF
  have k1 : ∀ q : Nat, q < H0.size → ¬ hFr ah0 H0.size q → T'.heap[q]? = H0[q]? := fun q h1 h2 => by
    rw [e1, hF.2 q (Nat.lt_of_lt_of_le h1 hS.1) (fun h => h2 (hFr.up hw h))]
    exact hS.2.1 q h1 h2
  have k2 : ∀ z ∈ locs ++ L, hFr ah0 H0.size z.base := fun z hz => by
    rcases List.mem_append.mp hz with h | h
    · exact hS.2.2 z h
    · exact hFr.up hw (hL z h)
  have hw1 : hW D ah0 H0 ah' T'.heap (locs ++ L) := ⟨by rw [e1]; exact hh, ⟨Nat.le_trans hS.1 (by rw [e1]; exact hF.1), k1, k2⟩, fun q e' hq => hFr.up hw (hd q e' hq)⟩
  obtain ⟨t2, a1, b1⟩ := kk v ah' T'.heap (locs ++ L) _ hp hw1 rfl T' rfl X'
  exact ⟨t2, st t2 a1, b1⟩
theorem h_iret {mc ms : Nat} {post : Option Value → hA → Prop} {sz : Nat} {v : Int32} (hexec : p.tables.exec = Jvm.exec) (hb : c.code = cc) (hr : meth.sig.returnType = some .int) (hlocks : meth.locks = false) (hsz : s.heap.size = sz) (hw : hW D ah0 s.heap ah H locs) (hc : cells ≤ mc) (hs : slots ≤ ms) (hdg : decode cc pc = .ok (.ireturn, 1)) (hp : post (some (.int v)) ah) :
    W p l e R s m args below meth c H locs cells slots (MQ below (hPost D ah0 sz post) args s mc ms (hFr ah0 sz)) (F0 m pc ls [.int v]) := by
  subst hsz
  exact W.widen hc hs (W.iret hexec hb hr (fun t ht _ => ⟨_, ah, rfl, hp, by rw [ht]; exact hw.1, hw.2.1.F ht, hw.2.2⟩) hw.2.1.2.2 hdg hlocks)
theorem h_zret {mc ms : Nat} {post : Option Value → hA → Prop} {sz : Nat} {v : Int32} (hexec : p.tables.exec = Jvm.exec) (hb : c.code = cc) (hr : meth.sig.returnType = some .boolean) (hlocks : meth.locks = false) (hsz : s.heap.size = sz) (hw : hW D ah0 s.heap ah H locs) (hc : cells ≤ mc) (hs : slots ≤ ms) (hdg : decode cc pc = .ok (.ireturn, 1)) (hv : v = 0 ∨ v = 1) (hp : post (some (.int v)) ah) :
    W p l e R s m args below meth c H locs cells slots (MQ below (hPost D ah0 sz post) args s mc ms (hFr ah0 sz)) (F0 m pc ls [.int v]) := by
  subst hsz
  exact W.widen hc hs (W.zret hexec hb hr (by rcases hv with rfl | rfl <;> rfl) (fun t ht _ => ⟨_, ah, rfl, hp, by rw [ht]; exact hw.1, hw.2.1.F ht, hw.2.2⟩) hw.2.1.2.2 hdg hlocks)
theorem h_lret {mc ms : Nat} {post : Option Value → hA → Prop} {sz : Nat} {v : Int64} (hexec : p.tables.exec = Jvm.exec) (hb : c.code = cc) (hr : meth.sig.returnType = some .long) (hlocks : meth.locks = false) (hsz : s.heap.size = sz) (hw : hW D ah0 s.heap ah H locs) (hc : cells ≤ mc) (hs : slots ≤ ms) (hdg : decode cc pc = .ok (.lreturn, 1)) (hp : post (some (.long v)) ah) :
    W p l e R s m args below meth c H locs cells slots (MQ below (hPost D ah0 sz post) args s mc ms (hFr ah0 sz)) (F0 m pc ls [.long v]) := by
  subst hsz
  exact W.widen hc hs (W.lret hexec hb hr (fun t ht _ => ⟨_, ah, rfl, hp, by rw [ht]; exact hw.1, hw.2.1.F ht, hw.2.2⟩) hw.2.1.2.2 hdg hlocks)
theorem h_vret {mc ms : Nat} {post : Option Value → hA → Prop} {sz : Nat} (hexec : p.tables.exec = Jvm.exec) (hb : c.code = cc) (hr : meth.sig.returnType = none) (hlocks : meth.locks = false) (hsz : s.heap.size = sz) (hw : hW D ah0 s.heap ah H locs) (hc : cells ≤ mc) (hs : slots ≤ ms) (hdg : decode cc pc = .ok (.return_, 1)) (hp : post none ah) :
    W p l e R s m args below meth c H locs cells slots (MQ below (hPost D ah0 sz post) args s mc ms (hFr ah0 sz)) (F0 m pc ls []) := by
  subst hsz
  exact W.widen hc hs (W.vret hexec hb hr (fun t ht _ => ⟨_, ah, rfl, hp, by rw [ht]; exact hw.1, hw.2.1.F ht, hw.2.2⟩) hw.2.1.2.2 hdg hlocks)
theorem h_aret {mc ms : Nat} {post : Option Value → hA → Prop} {sz : Nat} {b : Nat} {rt : FieldType} (hexec : p.tables.exec = Jvm.exec) (hb : c.code = cc) (hr : meth.sig.returnType = some rt) (hrt : (∃ n, rt = .object n) ∨ ∃ t, rt = .array t) (hlocks : meth.locks = false) (hsz : s.heap.size = sz) (hw : hW D ah0 s.heap ah H locs) (hc : cells ≤ mc) (hs : slots ≤ ms) (hdg : decode cc pc = .ok (.areturn, 1)) (hp : post (some (.ref b)) ah) :
    W p l e R s m args below meth c H locs cells slots (MQ below (hPost D ah0 sz post) args s mc ms (hFr ah0 sz)) (F0 m pc ls [.ref b]) := by
  subst hsz
  exact W.widen hc hs (W.aret hexec hb hr hrt (Or.inr ⟨b, rfl⟩) (fun t ht _ => ⟨_, ah, rfl, hp, by rw [ht]; exact hw.1, hw.2.1.F ht, hw.2.2⟩) hw.2.1.2.2 hdg hlocks)
end HROWS
theorem h_gV {own C : String} {index : Nat} {y : MethodName} {w : Cond} (km : Cond.methodLink own index y ∈ hAll) (ki : Cond.instanceMethod y ∈ hAll) (ks : Cond.selects C y y ∈ hAll) (kn : Cond.initialized C ∈ hAll) (ko : w ∈ hAll) : GoodIn hAll (wsV own index C y (w :: hAll)) := fun x hx => by
  simp only [wsV, List.cons_append, List.nil_append, List.mem_cons] at hx
  rcases hx with h | h | h | h | h | h
  · rw [h]; exact hAll_good _ km
  · rw [h]; exact hAll_good _ ki
  · rw [h]; exact hAll_good _ ks
  · rw [h]; exact hAll_good _ kn
  · rw [h]; exact hAll_good _ ko
  · exact hAll_good _ h
theorem h_gS {own : String} {index : Nat} {y : MethodName} {w : Cond} (km : Cond.methodLink own index y ∈ hAll) (kt : Cond.static y ∈ hAll) (kn : Cond.initialized y.cls ∈ hAll) (ko : w ∈ hAll) : GoodIn hAll (va_wsS own index y (w :: hAll)) := fun x hx => by
  simp only [va_wsS, List.cons_append, List.nil_append, List.mem_cons] at hx
  rcases hx with h | h | h | h | h
  · rw [h]; exact hAll_good _ km
  · rw [h]; exact hAll_good _ kt
  · rw [h]; exact hAll_good _ kn
  · rw [h]; exact hAll_good _ ko
  · exact hAll_good _ h
/-- is the callee's room within the caller's? -/
def hRm (rm R : Room) (maxL mc ms cells slots : Nat) : Prop := rm.cells = mc ∧ rm.slots = ms ∧ rm.frames + 1 ≤ R.frames ∧ 8 + (maxL + 11) + rm.locals ≤ R.locals ∧ cells + mc ≤ R.cells ∧ slots + ms ≤ R.slots
section HCALLS
variable {p : Program} {l : Launch} {e : Env} {R : Room} {s : State} {m : MethodId} {args : Array Value} {below : List Frame} {meth : Method} {c : Code} {H : Heap} {locs : List Loc} {cells slots : Nat} {Q : State → Prop}
variable {cc : ByteArray} {pc : Nat} {ls : Array Slot} {rest : List Value} {D : va_G} {dT : Nat → ClassId} {ah0 ah : hA} {H0 : Heap}
theorem h_callV {own C : String} {index nL n ci N b maxL' mc ms : Nat} {y : MethodName} {cc' : ByteArray} {ret' : Option FieldType} {rm' : Room} {T : u_T} {fs As st0 : List Value} {post : Option Value → hA → Prop}
    (S : CallFix p m c cc nL s args hAll own) (hK : hC D dT s) (hw : hW D ah0 H0 ah H locs) (hM : hMet l y cc' maxL' ret' rm' D dT (.ref b :: As) ah H.size post mc ms)
    (ko : Cond.code y cc' maxL' ret' ∈ hAll) (km : Cond.methodLink own index y ∈ hAll) (ki : Cond.instanceMethod y ∈ hAll) (ks : Cond.selects C y y ∈ hAll) (kn : Cond.initialized C ∈ hAll)
    (hd : y.cls = C ∧ y.cls ≠ "java/lang/invoke/MethodHandle" ∧ y.cls ≠ "java/lang/invoke/VarHandle" ∧ (parseMethodDescriptor y.desc).map (fun d => d.parameters.length) = some n)
    (hc : vwCl[ci]? = some (C, T, N)) (he : ah b = some (.inr (ci, fs))) (hn : As.length = n) (hsize : ls.size = nL) (hstack : st0 = As.reverse ++ .ref b :: rest) (hcat : (rest.map fun v => v.category).sum ≤ 8) (hdg : decode cc pc = .ok (.invokevirtual index, 3)) (hR : hRm rm' R maxL' mc ms cells slots)
    (kk : ∀ (r : Option Value) (ah' : hA) (H1 : Heap) (locs1 : List Loc) (st1 : List Value), post r ah' → hW D ah0 H0 ah' H1 locs1 → st1 = r.toList ++ rest → W p l e R s m args below meth c H1 locs1 (cells + mc) (slots + ms) Q (F0 m (pc + 3) ls st1)) : W p l e R s m args below meth c H locs cells slots Q (F0 m pc ls st0) :=
  h_call (va_runV S hM (cwV n S.2.2.2.2 (h_gV km ki ks kn ko) rfl hR.1 hR.2.1 hd ⟨hR.2.2.1, hR.2.2.2.1⟩) (h_preV hK hw hc he) rfl hn hsize hstack (lv_room hcat) hdg hR.2.2.2.2) hw kk
theorem h_callS {own : String} {index nL n maxL' mc ms : Nat} {y : MethodName} {cc' : ByteArray} {ret' : Option FieldType} {rm' : Room} {As st0 : List Value} {post : Option Value → hA → Prop}
    (S : CallFix p m c cc nL s args hAll own) (hK : hC D dT s) (hw : hW D ah0 H0 ah H locs) (hM : hMet l y cc' maxL' ret' rm' D dT As ah H.size post mc ms)
    (ko : Cond.code y cc' maxL' ret' ∈ hAll) (km : Cond.methodLink own index y ∈ hAll) (kt : Cond.static y ∈ hAll) (kn : Cond.initialized y.cls ∈ hAll)
    (hd : y.cls ≠ "java/lang/invoke/MethodHandle" ∧ y.cls ≠ "java/lang/invoke/VarHandle" ∧ (parseMethodDescriptor y.desc).map (fun d => d.parameters.length) = some n)
    (hn : As.length = n) (hsize : ls.size = nL) (hstack : st0 = As.reverse ++ rest) (hcat : (rest.map fun v => v.category).sum ≤ 8) (hdg : decode cc pc = .ok (.invokestatic index, 3)) (hR : hRm rm' R maxL' mc ms cells slots)
    (kk : ∀ (r : Option Value) (ah' : hA) (H1 : Heap) (locs1 : List Loc) (st1 : List Value), post r ah' → hW D ah0 H0 ah' H1 locs1 → st1 = r.toList ++ rest → W p l e R s m args below meth c H1 locs1 (cells + mc) (slots + ms) Q (F0 m (pc + 3) ls st1)) : W p l e R s m args below meth c H locs cells slots Q (F0 m pc ls st0) :=
  h_call (va_runS S hM (va_cwS n S.2.2.2.2 (h_gS km kt kn ko) rfl hR.1 hR.2.1 hd ⟨hR.2.2.1, hR.2.2.2.1⟩) (h_preS hK hw) rfl hn hsize hstack (lv_room hcat) hdg hR.2.2.2.2) hw kk
theorem h_callI {own : String} {index nL n b maxL' mc ms : Nat} {y : MethodName} {cc' : ByteArray} {rm' : Room} {As st0 : List Value} {post : Option Value → hA → Prop}
    (S : CallFix p m c cc nL s args hAll own) (hK : hC D dT s) (hw : hW D ah0 H0 ah H locs) (hM : hMet l y cc' maxL' none rm' D dT (.ref b :: As) ah H.size post mc ms)
    (ko : Cond.code y cc' maxL' none ∈ hAll) (km : Cond.methodLink own index y ∈ hAll) (ki : Cond.instanceMethod y ∈ hAll) (kn : Cond.initialized y.cls ∈ hAll) (hy1 : y.name = "<init>")
    (hd : y.cls ≠ "java/lang/invoke/MethodHandle" ∧ y.cls ≠ "java/lang/invoke/VarHandle" ∧ (parseMethodDescriptor y.desc).map (fun d => d.parameters.length) = some n)
    (hn : As.length = n) (hsize : ls.size = nL) (hstack : st0 = As.reverse ++ .ref b :: rest) (hcat : (rest.map fun v => v.category).sum ≤ 8) (hdg : decode cc pc = .ok (.invokespecial index, 3)) (hR : hRm rm' R maxL' mc ms cells slots)
    (kk : ∀ (r : Option Value) (ah' : hA) (H1 : Heap) (locs1 : List Loc) (st1 : List Value), post r ah' → hW D ah0 H0 ah' H1 locs1 → st1 = r.toList ++ rest → W p l e R s m args below meth c H1 locs1 (cells + mc) (slots + ms) Q (F0 m (pc + 3) ls st1)) : W p l e R s m args below meth c H locs cells slots Q (F0 m pc ls st0) :=
  h_call (va_runI S hM (cwI n S.2.2.2.2 (hAll_c ko) rfl hR.1 hR.2.1 (S.2.2.2.2 _ kn) (S.2.2.2.2 _ km) (S.2.2.2.2 _ ki) hy1 hd ⟨hR.2.2.1, hR.2.2.2.1⟩) (h_preS hK hw) rfl hn hsize hstack (lv_room hcat) hdg hR.2.2.2.2) hw kk
theorem h_callIN {own host : String} {index nL n b maxL' mc ms : Nat} {y : MethodName} {cc' : ByteArray} {rm' : Room} {As st0 : List Value} {post : Option Value → hA → Prop}
    (S : CallFix p m c cc nL s args hAll own) (hK : hC D dT s) (hw : hW D ah0 H0 ah H locs) (hM : hMet l y cc' maxL' none rm' D dT (.ref b :: As) ah H.size post mc ms)
    (ko : Cond.code y cc' maxL' none ∈ hAll) (km : Cond.methodLinkNest own index y host ∈ hN) (ki : Cond.instanceMethod y ∈ hAll) (kn : Cond.initialized y.cls ∈ hAll) (hy1 : y.name = "<init>")
    (hd : y.cls ≠ "java/lang/invoke/MethodHandle" ∧ y.cls ≠ "java/lang/invoke/VarHandle" ∧ (parseMethodDescriptor y.desc).map (fun d => d.parameters.length) = some n)
    (hn : As.length = n) (hsize : ls.size = nL) (hstack : st0 = As.reverse ++ .ref b :: rest) (hcat : (rest.map fun v => v.category).sum ≤ 8) (hdg : decode cc pc = .ok (.invokespecial index, 3)) (hR : hRm rm' R maxL' mc ms cells slots)
    (kk : ∀ (r : Option Value) (ah' : hA) (H1 : Heap) (locs1 : List Loc) (st1 : List Value), post r ah' → hW D ah0 H0 ah' H1 locs1 → st1 = r.toList ++ rest → W p l e R s m args below meth c H1 locs1 (cells + mc) (slots + ms) Q (F0 m (pc + 3) ls st1)) : W p l e R s m args below meth c H locs cells slots Q (F0 m pc ls st0) :=
  h_call (va_runIN S hM ⟨va_cnB n S.2.2.2.2 (hAll_c ko) rfl hR.1 hR.2.1 (hK.2.1 _ km) (S.2.2.2.2 _ kn) hd ⟨hR.2.2.1, hR.2.2.2.1⟩, hy1, S.2.2.2.2 _ ki⟩ (h_preS hK hw) rfl hn hsize hstack (lv_room hcat) hdg hR.2.2.2.2) hw kk
end HCALLS
/-- what a body has at its entry -/
def hB (p : Program) (s : State) (m : MethodId) (args : Array Value) (meth : Method) (c : Code) (cc : ByteArray) (maxL : Nat) (ret : Option FieldType) (y : MethodName) (D : va_G) (dT : Nat → ClassId) : Prop :=
  p.tables.exec = Jvm.exec ∧ c.code = cc ∧ c.maxLocals = maxL ∧ meth.sig.returnType = ret ∧ (∀ w ∈ hAll, w.before args s = true) ∧ s.vm.findClass y.cls = some m.cls ∧ meth.locks = false ∧ meth.name = y.name ∧ hC D dT s
theorem h_met {l : Launch} {y : MethodName} {rm : Room} {D : va_G} {dT : Nat → ClassId} {av : List Value} {ah : hA} {sz : Nat} {post : Option Value → hA → Prop} {mc ms : Nat} {cc : ByteArray} {maxL : Nat} {ret : Option FieldType}
    (hy : plainName y.cls = true) (hlen : (lg_sl av).length ≤ maxL)
    (body : ∀ (p : Program) (e : Env) (s : State) (m : MethodId) (below : List Frame) (meth : Method) (c : Code) (ls : Array Slot) (R : Room) (Q : State → Prop) (args : Array Value), args = av.toArray → R = rm → Q = MQ below (hPost D ah sz post) args s mc ms (hFr ah sz) → hB p s m args meth c cc maxL ret y D dT → lv_has ls maxL (lv_args 0 av) → s.heap.size = sz → hW D ah s.heap ah s.heap [] →
      W p l e R s m args below meth c s.heap [] 0 0 Q (F0 m 0 ls [])) : hMet l y cc maxL ret rm D dT av ah sz post mc ms := by
  refine Met.ofW hy rfl ?_
  intro p e s m args below meth c s₁ B hml hv
  obtain ⟨rfl, hsz, hh, hK⟩ := hv
  have hl := lv_entry av (n := maxL) hlen
  rw [lg_entry_eq]
  generalize (lg_sl av ++ List.replicate (maxL - (lg_sl av).length) Slot.unset).toArray = ls at hl ⊢
  have hts := atoms_spec (ws := Cond.code y cc maxL ret :: hAll) B.pre
  exact body p e s m below meth c ls _ _ _ rfl rfl rfl ⟨B.exec, B.bytes, hml, B.returns, fun w h => hts w (List.mem_cons_of_mem _ h), findClass_of_methodNamed B.named, B.notSynchronized, (name_of_methodNamed B.named B.method).1, hK⟩ hl hsz (hW.rf hh)

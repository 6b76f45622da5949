/-! Methods that catch -/
section CATCH0
/-- a row of the table that covers the place, its class linked: it takes the object, or the search goes on -/
theorem cx_row {Q : Handler → Pre} {E : CtlPost} {e : Env} {d : Bool} {acts : List Action} {S : State} {f : JFrame} {q : Addr} {x : ExceptionTableEntry} {t : List ExceptionTableEntry} {k : ClassId} {ce : Cell}
    (hx : covers x f.pc = true) (h0 : x.catchType ≠ 0) (hl : S.vm.ClassLinks e.platform f.method.cls x.catchType k) (hce : S.heap[q]? = some ce) (hv : ce.vm = .none)
    (h1 : ∃ z, S.vm.classes[ce.cls]? = some z) (h2 : ∃ z, S.vm.classes[k]? = some z) :
    wp (findHandler.go f q (x :: t)) Q E e d acts S ↔
      if S.vm.assignable ce.cls k = true then Q (.found x.handlerPc) d acts (S.setVm (S.vm.noted f.method.cls x.catchType (.cls k)))
      else wp (findHandler.go f q t) Q E e d acts (S.setVm (S.vm.noted f.method.cls x.catchType (.cls k))) := by
  obtain ⟨g1, g2⟩ := (resolveClass_links e.toSetting hl).op (op := VmOp.resolveClass f.method.cls x.catchType) rfl
  have al : S.vm.Alike (S.vm.noted f.method.cls x.catchType (.cls k)) := (Vm.Alike.refl S.vm).noted _ _ _
  obtain ⟨y1, h1⟩ := h1
  obtain ⟨y2, h2⟩ := h2
  obtain ⟨z1, j1, -⟩ := al.2.2 _ _ h1
  obtain ⟨z2, j2, -⟩ := al.2.2 _ _ h2
  have hq := al.assignable ce.cls k
  simp only [covers] at hx
  cases hA : S.vm.assignable ce.cls k <;> (rw [hA] at hq; simp [findHandler.go, hx, h0, g1, g2, hce, hv, j1, j2, hq, VmOp.dirties, VmOp.acts])
/-- the search through the table: the rows ahead don't take it, the row x does -/
theorem cx_go {e : Env} {s : State} {f : JFrame} {q : Addr} {ce : Cell} (hv : ce.vm = .none) (hk : ∃ z, s.vm.classes[ce.cls]? = some z) {x : ExceptionTableEntry} {suf : List ExceptionTableEntry} (hx : covers x f.pc = true) (h0 : x.catchType ≠ 0)
    {k : ClassId} (hl : s.vm.ClassLinks e.platform f.method.cls x.catchType k) (hA : s.vm.assignable ce.cls k = true) (pre : List ExceptionTableEntry) :
    ∀ S : State, s.WarmedH S.vm → S.heap[q]? = some ce → (∀ z ∈ pre, covers z f.pc = false ∨ (z.catchType ≠ 0 ∧ ∃ j, s.vm.ClassLinks e.platform f.method.cls z.catchType j ∧ s.vm.assignable ce.cls j = false)) →
      ∃ vm', s.WarmedH vm' ∧ ∀ (Q : Handler → Pre) (E : CtlPost) (d : Bool) (acts : List Action), wp (findHandler.go f q (pre ++ x :: suf)) Q E e d acts S ↔ Q (.found x.handlerPc) d acts (S.setVm vm') := by
  have key : ∀ (S : State) (y : ExceptionTableEntry) (j : ClassId), s.WarmedH S.vm → s.vm.ClassLinks e.platform f.method.cls y.catchType j →
      S.vm.ClassLinks e.platform f.method.cls y.catchType j ∧ (∃ z, S.vm.classes[ce.cls]? = some z) ∧ (∃ z, S.vm.classes[j]? = some z) ∧ s.WarmedH (S.vm.noted f.method.cls y.catchType (.cls j)) := by
    intro S y j hW hj
    obtain ⟨dk, _, _, kt, hd, _, _, _, _, hkt, _, ho⟩ := hj.here
    obtain ⟨z0, hz0⟩ := hk
    obtain ⟨z1, hz1, -⟩ := hW.alike.2.2 _ _ hz0
    obtain ⟨z2, hz2, -⟩ := hW.alike.2.2 _ _ hkt
    exact ⟨hW.classLinks hj, ⟨z1, hz1⟩, ⟨z2, hz2⟩, hW.noted hd ho (State.rightAt_cls hj)⟩
  induction pre with
  | nil =>
    intro S hW hce _
    obtain ⟨i1, i2, i3, i4⟩ := key S x k hW hl
    refine ⟨_, i4, fun Q E d acts => ?_⟩
    rw [List.nil_append, cx_row hx h0 i1 hce hv i2 i3, if_pos (by rw [hW.alike.assignable]; exact hA)]
  | cons y ys ih =>
    intro S hW hce hp
    have hp' := fun z hz => hp z (List.mem_cons_of_mem y hz)
    cases hc : covers y f.pc with
    | false =>
      obtain ⟨vm', o1, o2⟩ := ih S hW hce hp'
      exact ⟨vm', o1, fun Q E d acts => (Jvm.W.findHandler_go_skip hc).trans (o2 Q E d acts)⟩
    | true =>
      rcases hp y List.mem_cons_self with h | ⟨hy0, j, hj, hn⟩
      · rw [h] at hc; cases hc
      · obtain ⟨i1, i2, i3, i4⟩ := key S y j hW hj
        obtain ⟨vm', o1, o2⟩ := ih (S.setVm (S.vm.noted f.method.cls y.catchType (.cls j))) i4 hce hp'
        refine ⟨vm', o1, fun Q E d acts => ?_⟩
        rw [List.cons_append, cx_row hc hy0 i1 hce hv i2 i3, if_neg (by rw [hW.alike.assignable, hn]; exact Bool.false_ne_true)]
        exact o2 Q E d acts
/-- one step: the frame goes on at the row's handler, the classes' links as the search has left them -/
theorem cx_step {tb : Tables} {e : Env} {T t : State} {g : JFrame} {c : Code} {below : List Frame} {q : Addr} (h : At T g.method c below) {n : Nat} {vm' : Vm}
    (hf : ∀ (Q : Handler → Pre) (E : CtlPost) (d : Bool) (acts : List Action), wp (findHandler g q) Q E e d acts ((T.setTop g).pushFrame (.throwing q)) ↔ Q (.found n) d acts (((T.setTop g).pushFrame (.throwing q)).setVm vm'))
    (hr : Steps tb e below ((T.setVm vm').setTop { g with pc := n, stack := [.ref q] }) t) : Steps tb e below ((T.setTop g).pushFrame (.throwing q)) t := by
  obtain ⟨o1, o2⟩ := h.throwing q
  refine Steps.head o1 o2 ?_
  obtain ⟨g0, hg⟩ := Option.isSome_iff_exists.mp h.top
  obtain ⟨r, hfr⟩ := State.topJava?_eq_some.mp hg
  have hfr' : (T.setVm vm').frames = .java g0 :: r := hfr
  rw [stepThread_throwing (frames_entered h.top _)]
  have hs : (stepThrowing e ((T.setTop g).pushFrame (.throwing q)) q (.java g :: T.frames.tail)).Is ((((T.setTop g).pushFrame (.throwing q)).setVm vm').setFrames (.java { g with pc := n, stack := [.ref q] } :: T.frames.tail)) [] := by
    simp only [stepThrowing, searchFrame, vmDo]
    generalize hz : Sem.go _ e false [] ((T.setTop g).pushFrame (.throwing q)) = res
    obtain ⟨as, rfl, ha⟩ := Sem.eq_ok_of hz (a := Handler.found n) (s' := ((T.setTop g).pushFrame (.throwing q)).setVm vm') (acts' := []) (by simp [hf _ _ _ _])
    exact ⟨rfl, ha⟩
  rw [hs.1]
  have hh : ∀ (u : State) (F G : List Frame), ((u.setFrames F).setVm vm').setFrames G = (u.setVm vm').setFrames G := fun u F G => State.setFrames_setFrames (u.setVm vm') F G
  rw [State.setTop_of_frames _ hfr'] at hr
  rw [hfr, List.tail_cons, State.pushFrame, hh, State.setTop_of_frames _ hfr, hh]
  exact hr
end CATCH0
section CATCH
variable {p : Program} {l : Launch} {e : Env} {R : Room} {s : State} {m : MethodId} {args : Array Value} {below : List Frame} {meth : Method} {c : Code} {H : Heap} {locs : List Loc} {cells slots : Nat} {Q : State → Prop}
variable {mc ms : Nat} {free : Addr → Prop} {A0 A1 : Nat → Prop} {H0 : Heap} {a : Array Value} {pc : Nat} {ls : Array Slot} {st0 rest : List Value}
/-- caught by the row x of this method's table; the rows ahead don't take it -/
theorem vx_catch {own name : String} {E : String} {ce : Cell} {q : Addr} (hown : s.vm.findClass own = some m.cls) (pre : List ExceptionTableEntry) (x : ExceptionTableEntry) (suf : List ExceptionTableEntry) (hsplit : c.exceptionTable.toList = pre ++ x :: suf)
    (hpass : ∀ z ∈ pre, covers z pc = false ∨ (z.catchType ≠ 0 ∧ ∃ nm : String, (Cond.classLink own z.catchType nm).before args s = true ∧ va_Nc E nm s)) (hx : covers x pc = true) (h0 : x.catchType ≠ 0)
    (hlink : (Cond.classLink own x.catchType name).before args s = true) (hcast : (Cond.castable E name).before args s = true) (hcell : H[q]? = some ce) (hv : ce.vm = .none) (hcl : s.vm.findClass E = some ce.cls)
    (kk : W p l e R s m args below meth c H locs cells slots Q (F0 m x.handlerPc ls [.ref q])) : vx_W p l e R s m args below meth c H locs cells slots Q (F0 m pc ls rest) q := by
  intro T hT X
  have hpl : e.platform.magicAccessors = ({} : Platform).magicAccessors := by rw [X.admits.platform]
  obtain ⟨c3, c4, hc3, hc4, hasg⟩ := Cond.castable_spec hcast
  cases Option.some.inj (hc3.symm.trans hcl)
  obtain ⟨c5, hc5, hcl5⟩ := Cond.classLink_spec hown hlink e.platform hpl
  cases Option.some.inj (hc4.symm.trans hc5)
  obtain ⟨vm', o1, o2⟩ := cx_go (e := e) (s := s) (f := F0 m pc ls rest) (q := q) hv (by obtain ⟨k9, h9, -⟩ := Vm.findClass_spec hcl; exact ⟨k9, h9⟩) (x := x) (suf := suf) hx h0 hcl5 hasg pre
    ((T.setTop (F0 m pc ls rest)).pushFrame (.throwing q)) X.warmed (by show T.heap[q]? = some ce; rw [hT]; exact hcell) (fun z hz => by
      rcases hpass z hz with h | ⟨hz0, nm, hl1, a8, b8, h1, h2, h3⟩
      · exact Or.inl h
      · obtain ⟨c6, hc6, hcl6⟩ := Cond.classLink_spec hown hl1 e.platform hpl
        cases Option.some.inj (h1.symm.trans hcl)
        cases Option.some.inj (h2.symm.trans hc6)
        exact Or.inr ⟨hz0, _, hcl6, h3⟩)
  obtain ⟨t, a1, b1⟩ := kk (T.setVm vm') hT (X.noted o1)
  exact ⟨t, cx_step (g := F0 m pc ls rest) X.here (fun Q9 E9 d9 a9 => by rw [Jvm.W.findHandler_eq (s := (T.setTop (F0 m pc ls rest)).pushFrame (.throwing q)) (f := F0 m pc ls rest) X.method' X.code, hsplit]; exact o2 Q9 E9 d9 a9) a1, b1⟩
end CATCH
def hh_open : List (Nat × Nat × Nat × Nat) := [(0, 9, 12, 13), (0, 9, 15, 15), (0, 9, 18, 17)]
theorem ko_L_open : Cond.codeWith yL_open cL_open 4 (some .int) hh_open ∈ hAll := List.mem_filter.mpr ⟨by decide +kernel, by decide +kernel⟩
def hh_ring : List (Nat × Nat × Nat × Nat) := [(0, 4, 7, 15), (0, 4, 10, 17)]
theorem ko_L_ring : Cond.codeWith yL_ring cL_ring 2 (some .int) hh_ring ∈ hAll := List.mem_filter.mpr ⟨by decide +kernel, by decide +kernel⟩
def hh_point : List (Nat × Nat × Nat × Nat) := [(0, 10, 13, 13), (0, 10, 17, 15), (0, 10, 21, 17)]
theorem ko_L_point : Cond.codeWith yL_point cL_point 5 (some .int) hh_point ∈ hAll := List.mem_filter.mpr ⟨by decide +kernel, by decide +kernel⟩
def hh_close : List (Nat × Nat × Nat × Nat) := [(0, 8, 11, 15)]
theorem ko_L_close : Cond.codeWith yL_close cL_close 3 (some .int) hh_close ∈ hAll := List.mem_filter.mpr ⟨by decide +kernel, by decide +kernel⟩
def hh_judge : List (Nat × Nat × Nat × Nat) := [(0, 8, 11, 15)]
theorem ko_L_judge : Cond.codeWith yL_judge cL_judge 3 (some .int) hh_judge ∈ hAll := List.mem_filter.mpr ⟨by decide +kernel, by decide +kernel⟩
def hh_place : List (Nat × Nat × Nat × Nat) := [(0, 9, 12, 36)]
theorem ko_L_place : Cond.codeWith yL_place cL_place 4 (some .int) hh_place ∈ hAll := List.mem_filter.mpr ⟨by decide +kernel, by decide +kernel⟩
def xY : List Cond := [Cond.castable "java/lang/IllegalArgumentException" "java/lang/IllegalArgumentException", Cond.castable "java/lang/IllegalStateException" "java/lang/IllegalStateException", Cond.castable "java/lang/UnsupportedOperationException" "java/lang/UnsupportedOperationException", Cond.castable "java/lang/IndexOutOfBoundsException" "java/lang/IndexOutOfBoundsException"]
theorem xY_ok : xY.all (fun w => w.onTables && w.faceAtom) = true := by decide +kernel
theorem xY_tbl : xY.all (fun w => decide (w ∈ lw_tbl)) = true := by decide +kernel
/-- what catching needs of the state -/
def hY (U : State) : Prop := (∀ w ∈ xY, va_Nw w U) ∧ va_Nc "java/lang/IllegalStateException" "java/lang/IllegalArgumentException" U ∧ va_Nc "java/lang/UnsupportedOperationException" "java/lang/IllegalArgumentException" U ∧ va_Nc "java/lang/UnsupportedOperationException" "java/lang/IllegalStateException" U
theorem hY.warm {s U : State} (hW9 : s.WarmedH U.vm) (h : hY s) : hY U := ⟨fun w hw => xw_warm (List.all_eq_true.mp xY_ok w hw) hW9 (h.1 w hw), va_Nc.moved hW9.alike h.2.1, va_Nc.moved hW9.alike h.2.2.1, va_Nc.moved hW9.alike h.2.2.2⟩
theorem hY.same {s U : State} (hvm : s.vm = U.vm) (h : hY s) : hY U := by
  have ha : s.vm.Alike U.vm := by rw [hvm]; exact Vm.Alike.refl _
  exact ⟨fun w hw => xw_same (List.all_eq_true.mp xY_ok w hw) hvm (h.1 w hw), va_Nc.moved ha h.2.1, va_Nc.moved ha h.2.2.1, va_Nc.moved ha h.2.2.2⟩
theorem hY.cs {s : State} {args : Array Value} {w : Cond} (h : hY s) (hw : w ∈ xY) : w.before args s = true := by
  have h3 := List.all_eq_true.mp xY_ok w hw
  simp only [Bool.and_eq_true] at h3
  exact va_Nw.use h3.1 (h.1 w hw)
def hPreH (D : va_G) (dT : Nat → ClassId) (av : List Value) (ah : hA) (sz : Nat) : Array Value → State → Prop := va_Pc av (fun U => U.heap.size = sz ∧ hHd D ah U.heap ∧ hC D dT U ∧ hX ah sz U ∧ hY U)
/-- a static method with a table of its own that throws nothing -/
def hMetH (l : Launch) (y : MethodName) (cc : ByteArray) (maxL : Nat) (ret : Option FieldType) (hh : List (Nat × Nat × Nat × Nat)) (rm : Room) (D : va_G) (dT : Nat → ClassId) (av : List Value) (ah : hA) (sz : Nat) (post : Option Value → hA → Prop) (mc ms : Nat) : Prop :=
  Met l y (Cond.codeWith y cc maxL ret hh :: hAll) rm (hPreH D dT av ah sz) (hPost D ah sz post) mc ms (hFr ah sz)
theorem h_blindH {D : va_G} {dT : Nat → ClassId} {ah : hA} {av : List Value} {sz : Nat} : FrameBlind (hPreH D dT av ah sz) := fun a9 U g mk q => by
  obtain ⟨q0, q1, q2, q3, ⟨x1, x2, x3, x4⟩, x5⟩ := q
  have ha : U.vm.Alike (U.calling g mk a9).vm := Vm.Alike.refl _
  refine ⟨q0, q1, q2, hC.same (u := U) (U := U.calling g mk a9) rfl q3, ⟨fun z hz => ?_, fun w hw => xw_same (List.all_eq_true.mp xBad_ok w hw) (s := U) (U := U.calling g mk a9) rfl (x2 w hw), vx_Zq.moved ha x3, vx_Zq.moved ha x4⟩, hY.same (s := U) (U := U.calling g mk a9) rfl x5⟩
  obtain ⟨a, hz⟩ := x1 z hz
  exact ⟨a, vk_R.same (u := U) (U := U.calling g mk a9) rfl hz⟩
theorem h_preH {D : va_G} {dT : Nat → ClassId} {ah0 ah : hA} {s : State} {H : Heap} {locs : List Loc} (hK : hC D dT s) (hx : hX ah0 s.heap.size s) (hy : hY s) (hw : hW D ah0 s.heap ah H locs) {av : List Value} : PreS s H (hPreH D dT av ah H.size) av :=
  ⟨h_blindH, fun U hU hWm => ⟨rfl, by rw [hU], by rw [hU]; exact hw.1, hC.warm hWm hK, hX.go hx hw hU hWm, hY.warm hWm hy⟩⟩
theorem h_metH {l : Launch} {y : MethodName} {rm : Room} {D : va_G} {dT : Nat → ClassId} {av : List Value} {ah : hA} {sz : Nat} {post : Option Value → hA → Prop} {mc ms : Nat} {cc : ByteArray} {maxL : Nat} {ret : Option FieldType} {hh : List (Nat × Nat × Nat × Nat)}
    (hy : plainName y.cls = true) (hlen : (lg_sl av).length ≤ maxL)
    (body : ∀ (p : Program) (e : Env) (s : State) (m : MethodId) (below : List Frame) (meth : Method) (c : Code) (ls : Array Slot) (R : Room) (Q : State → Prop) (args : Array Value), args = av.toArray → R = rm → Q = MQ below (hPost D ah sz post) args s mc ms (hFr ah sz) → hB p s m args meth c cc maxL ret y D dT → lv_has ls maxL (lv_args 0 av) → s.heap.size = sz → hW D ah s.heap ah s.heap [] → hX ah s.heap.size s → hY s → c.exceptionTable.toList = tableOf hh →
      W p l e R s m args below meth c s.heap [] 0 0 Q (F0 m 0 ls [])) : hMetH l y cc maxL ret hh rm D dT av ah sz post mc ms := by
  unfold hMetH Met
  refine MetFree.of_bodyS (code := cc) (maxLocals := maxL) (ret := ret) hy ?_ ?_
  · intro args s m h hn
    obtain ⟨m9, meth, c, hn9, h1, h2, h3, h4, -, h5, h6, -⟩ := Cond.codeWith_spec (atoms_spec (ws := Cond.codeWith y cc maxL ret hh :: hAll) h _ List.mem_cons_self)
    cases hn.symm.trans hn9
    exact ⟨meth, c, h1, h2, h3, h4, h5, h6⟩
  · intro p e s m args below meth c s₁ B hml hv _
    have hh0 : s₁.heap = s.heap := by rw [B.state]; rfl
    obtain ⟨rfl, hsz, hhd, hK, hX9, hY9⟩ := hv
    have hl := lv_entry av (n := maxL) hlen
    have hts := atoms_spec (ws := Cond.codeWith y cc maxL ret hh :: hAll) B.pre
    have ht := vx_table (x := y) B (hts _ List.mem_cons_self)
    have K : W p l e (headSpec (Cond.codeWith y cc maxL ret hh :: hAll) rm).room s m av.toArray below meth c s.heap [] 0 0 (MQ below (hPost D ah sz post) av.toArray s mc ms (hFr ah sz)) (entryFrame m av.toArray maxL) := by
      rw [lg_entry_eq]
      generalize (lg_sl av ++ List.replicate (maxL - (lg_sl av).length) Slot.unset).toArray = ls at hl ⊢
      exact body p e s m below meth c ls _ _ _ rfl rfl rfl ⟨B.exec, B.bytes, hml, B.returns, fun w h => hts w (List.mem_cons_of_mem _ h), findClass_of_methodNamed B.named, B.notSynchronized, (name_of_methodNamed B.named B.method).1, hK⟩ hl hsz (hW.rf hhd) (by rw [hsz]; exact hX9) hY9 ht
    obtain ⟨t, a1, o, b1, b2, b3⟩ := K s₁ hh0 (Stand.of_body B)
    exact ⟨t, o, a1, b1, b2, b3⟩
section HCALLH
variable {p : Program} {l : Launch} {e : Env} {R : Room} {s : State} {m : MethodId} {args : Array Value} {below : List Frame} {meth : Method} {c : Code} {H : Heap} {locs : List Loc} {cells slots : Nat} {Q : State → Prop}
variable {cc : ByteArray} {pc : Nat} {ls : Array Slot} {rest : List Value} {D : va_G} {dT : Nat → ClassId} {ah0 ah : hA}
theorem h_callSH {own : String} {index nL n maxL' mc ms : Nat} {y : MethodName} {cc' : ByteArray} {ret' : Option FieldType} {hh : List (Nat × Nat × Nat × Nat)} {rm' : Room} {As st0 : List Value} {post : Option Value → hA → Prop}
    (S : CallFix p m c cc nL s args hAll own) (hK : hC D dT s) (hx : hX ah0 s.heap.size s) (hy : hY s) (hw : hW D ah0 s.heap ah H locs) (hM : hMetH l y cc' maxL' ret' hh rm' D dT As ah H.size post mc ms)
    (ko : Cond.codeWith y cc' maxL' ret' hh ∈ hAll) (km : Cond.methodLink own index y ∈ hAll) (kt : Cond.static y ∈ hAll) (kn : Cond.initialized y.cls ∈ hAll)
    (hd : y.cls ≠ "java/lang/invoke/MethodHandle" ∧ y.cls ≠ "java/lang/invoke/VarHandle" ∧ (parseMethodDescriptor y.desc).map (fun d => d.parameters.length) = some n)
    (hn : As.length = n) (hsize : ls.size = nL) (hstack : st0 = As.reverse ++ rest) (hcat : (rest.map fun v => v.category).sum ≤ 8) (hdg : decode cc pc = .ok (.invokestatic index, 3)) (hR : hRm rm' R maxL' mc ms cells slots)
    (kk : ∀ (r : Option Value) (ah' : hA) (H1 : Heap) (locs1 : List Loc) (st1 : List Value), post r ah' → hW D ah0 s.heap ah' H1 locs1 → st1 = r.toList ++ rest → W p l e R s m args below meth c H1 locs1 (cells + mc) (slots + ms) Q (F0 m (pc + 3) ls st1)) : W p l e R s m args below meth c H locs cells slots Q (F0 m pc ls st0) :=
  h_call (vx_runSW S hM (vx_cwSW n S.2.2.2.2 (h_gS km kt kn ko) rfl hR.1 hR.2.1 hd ⟨hR.2.2.1, hR.2.2.2.1⟩) (h_preH hK hx hy hw) rfl hn hsize hstack (lv_room hcat) hdg hR.2.2.2.2) hw kk
end HCALLH

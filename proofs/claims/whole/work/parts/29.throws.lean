/-! Methods that may throw -/
def xStr : List (Nat × String) := [(46, "there is no such kind"), (57, "no shape of this kind can begin here"), (62, "there would be too many numbers"), (72, "no polygon is open"), (80, "x or y is too far out"), (86, "nothing that can have a point is open"), (91, "there would be too many points"), (100, "no shape is open"), (108, "there is no whole shape"), (125, "there is no such place")]
def xNm : List String := ["java/lang/RuntimeException", "java/lang/Exception"]
def xAll : List Cond := vx_atS RX9 48 "java/lang/IllegalArgumentException" xNm ++ (vx_atS RX9 59 "java/lang/IllegalStateException" xNm ++ (vx_atS RX9 64 "java/lang/UnsupportedOperationException" xNm ++ vx_atS RX9 127 "java/lang/IndexOutOfBoundsException" xNm))
def xBad : List Cond := xAll.filter (fun w => !goodWord w)
theorem xBad_ok : xBad.all (fun w => w.onTables && w.faceAtom) = true := by decide +kernel
theorem xGood : (xAll.filter goodWord).all (fun w => decide (w ∈ lw_tbl)) = true := by decide +kernel
theorem xOt : xAll.all vx_ot = true := by decide +kernel
theorem xw_warm {w : Cond} (h : (w.onTables && w.faceAtom) = true) {s U : State} (hW : s.WarmedH U.vm) (hh : va_Nw w s) : va_Nw w U := by
  simp only [Bool.and_eq_true] at h
  exact va_tabs h.1 (rfl : (s.setVm U.vm).vm = U.vm) (Cond.faceAtom_setVm hW.alike w h.2 hh)
theorem xw_same {w : Cond} (h : (w.onTables && w.faceAtom) = true) {s U : State} (hvm : s.vm = U.vm) (hh : va_Nw w s) : va_Nw w U := by
  simp only [Bool.and_eq_true] at h
  exact va_tabs h.1 hvm hh
/-- what a throw needs of the state: the texts, the words that are not good, where Throwable's statics lie -/
def hX (ah : hA) (sz : Nat) (U : State) : Prop := (∀ q ∈ xStr, ∃ a, vk_R RX9 q.1 q.2 a U) ∧ (∀ w ∈ xBad, va_Nw w U) ∧ vx_Zq Bundle.tN "UNASSIGNED_STACK" Bundle.steD (hFr ah sz) U U.heap ∧ vx_Zq Bundle.tN "SUPPRESSED_SENTINEL" Bundle.listD (hFr ah sz) U U.heap
theorem hX.go {D : va_G} {ah0 ah : hA} {H : Heap} {locs : List Loc} {s U : State} (hx : hX ah0 s.heap.size s) (hw : hW D ah0 s.heap ah H locs) (hU : U.heap = H) (hW9 : s.WarmedH U.vm) : hX ah H.size U := by
  refine ⟨fun q hq => ?_, fun w hw9 => xw_warm (List.all_eq_true.mp xBad_ok w hw9) hW9 (hx.2.1 w hw9), ?_, ?_⟩
  · obtain ⟨a, ha⟩ := hx.1 q hq
    exact ⟨a, vk_R.warm hW9 ha⟩
  · rw [hU]
    exact vx_Zq.moved hW9.alike ((hx.2.2.1.kept hw.2.1.2.1).narrow (fun q h => hFr.up hw h))
  · rw [hU]
    exact vx_Zq.moved hW9.alike ((hx.2.2.2.kept hw.2.1.2.1).narrow (fun q h => hFr.up hw h))
def hPreX (D : va_G) (dT : Nat → ClassId) (av : List Value) (ah : hA) (sz : Nat) : Array Value → State → Prop := va_Pc av (fun U => U.heap.size = sz ∧ hHd D ah U.heap ∧ hC D dT U ∧ hX ah sz U)
/-- what is known where a method has thrown E: its cells are as they were -/
def hXC (D : va_G) (ah : hA) (sz : Nat) (px : String → Prop) : String → State → State → Prop := fun E st t => px E ∧ hHd D ah t.heap ∧ va_F (hFr ah sz) st t
def hMetX (l : Launch) (y : MethodName) (cc : ByteArray) (maxL : Nat) (ret : Option FieldType) (rm : Room) (D : va_G) (dT : Nat → ClassId) (av : List Value) (ah : hA) (sz : Nat) (post : Option Value → hA → Prop) (px : String → Prop) (mc ms : Nat) : Prop :=
  vx_Met l y (Cond.code y cc maxL ret :: hAll) rm (hPreX D dT av ah sz) (hPost D ah sz post) (hXC D ah sz px) mc ms (hFr ah sz)
theorem h_blindX {D : va_G} {dT : Nat → ClassId} {ah : hA} {av : List Value} {sz : Nat} : FrameBlind (hPreX D dT av ah sz) := fun a9 U g mk q => by
  obtain ⟨q0, q1, q2, q3, x1, x2, x3, x4⟩ := q
  have ha : U.vm.Alike (U.calling g mk a9).vm := Vm.Alike.refl _
  refine ⟨q0, q1, q2, hC.same (u := U) (U := U.calling g mk a9) rfl q3, fun z hz => ?_, fun w hw => xw_same (List.all_eq_true.mp xBad_ok w hw) (s := U) (U := U.calling g mk a9) rfl (x2 w hw), vx_Zq.moved ha x3, vx_Zq.moved ha x4⟩
  obtain ⟨a, hz⟩ := x1 z hz
  exact ⟨a, vk_R.same (u := U) (U := U.calling g mk a9) rfl hz⟩
theorem h_preXV {D : va_G} {dT : Nat → ClassId} {ah0 ah : hA} {s : State} {H : Heap} {locs : List Loc} {a : Nat} (hK : hC D dT s) (hx : hX ah0 s.heap.size s) (hw : hW D ah0 s.heap ah H locs) {ci : Nat} {C : String} {T : u_T} {N : Nat} {fs As : List Value} (hc : vwCl[ci]? = some (C, T, N)) (he : ah a = some (.inr (ci, fs))) : PreV s H C a (hPreX D dT (.ref a :: As) ah H.size) As :=
  ⟨h_blindX, h_recv hK hw hc he, fun U hU hWm => ⟨rfl, by rw [hU], by rw [hU]; exact hw.1, hC.warm hWm hK, hX.go hx hw hU hWm⟩⟩
section XROWS
variable {p : Program} {l : Launch} {e : Env} {R : Room} {s : State} {m : MethodId} {args : Array Value} {below : List Frame} {meth : Method} {c : Code} {H : Heap} {locs : List Loc} {cells slots : Nat} {Q : State → Prop}
variable {cc : ByteArray} {pc : Nat} {ls : Array Slot} {rest : List Value} {D : va_G} {dT : Nat → ClassId} {ah0 ah : hA} {H0 : Heap}
theorem hW.kept {H1 : Heap} {locs1 : List Loc} (hw : hW D ah0 H0 ah H locs) (hh : hHd D ah H1) (hS : va_S (hFr ah0 H0.size) H0 H1 locs1) : hW D ah0 H0 ah H1 locs1 := ⟨hh, hS, hw.2.2⟩
theorem h_callX {mc ms : Nat} {post : Option Value → hA → Prop} {px : String → Prop} {st0 : List Value} {aa : Array Value} (hr : vx_Run p l e R s m args below meth c H locs cells slots mc ms (F0 m pc ls st0) rest (hPost D ah H.size post aa) (hXC D ah H.size px) (hFr ah H.size)) (hw : hW D ah0 H0 ah H locs)
    (kx : ∀ (E : String) (ce : Cell) (q : Addr) (H1 : Heap) (locs1 : List Loc), px E → hW D ah0 H0 ah H1 locs1 → H1[q]? = some ce → ce.vm = .none → s.vm.findClass E = some ce.cls → vx_W p l e R s m args below meth c H1 locs1 (cells + mc) (slots + ms) Q (F0 m pc ls rest) q)
    (kk : ∀ (r : Option Value) (ah' : hA) (H1 : Heap) (locs1 : List Loc) (st1 : List Value), post r ah' → hW D ah0 H0 ah' H1 locs1 → st1 = r.toList ++ rest → W p l e R s m args below meth c H1 locs1 (cells + mc) (slots + ms) Q (F0 m (pc + 3) ls st1)) : W p l e R s m args below meth c H locs cells slots Q (F0 m pc ls st0) := by
  intro T hT X
  have hS := hw.2.1
  rcases hr T hT X with ⟨v, st₀, t, T', L, h0, X', hL, e1, e2, ⟨r, ah', hv, hp, hh, hF, hd⟩, st⟩ | ⟨q, st₀, t, T', L, E, ce, h0, X', hL, e1, e2, ⟨hp, hh, hF⟩, hce, hcv, hcl, st⟩
  · cases hv
    obtain ⟨k1, k2, k3⟩ := vx_keep h0 e1 hS (fun q _ h => hFr.up hw h) (fun q h => hFr.up hw h) hL hF
    obtain ⟨t2, a1, b1⟩ := kk v ah' T'.heap (locs ++ L) _ hp ⟨by rw [e1]; exact hh, k3, fun q e' hq => hFr.up hw (hd q e' hq)⟩ rfl T' rfl X'
    exact ⟨t2, st t2 a1, b1⟩
  · obtain ⟨k1, k2, k3⟩ := vx_keep h0 e1 hS (fun q _ h => hFr.up hw h) (fun q h => hFr.up hw h) hL hF
    obtain ⟨t2, a1, b1⟩ := kx E ce q T'.heap (locs ++ L) hp ⟨by rw [e1]; exact hh, k3, hw.2.2⟩ (by rw [e1]; exact hce) hcv hcl T' rfl X'
    exact ⟨t2, st.trans a1, b1⟩
theorem h_callXV {own C : String} {index nL n ci N b maxL' mc ms : Nat} {y : MethodName} {cc' : ByteArray} {ret' : Option FieldType} {rm' : Room} {T : u_T} {fs As st0 : List Value} {post : Option Value → hA → Prop} {px : String → Prop}
    (S : CallFix p m c cc nL s args hAll own) (hK : hC D dT s) (hx : hX ah0 s.heap.size s) (hw : hW D ah0 s.heap ah H locs) (hM : hMetX l y cc' maxL' ret' rm' D dT (.ref b :: As) ah H.size post px mc ms)
    (ko : Cond.code y cc' maxL' ret' ∈ hAll) (km : Cond.methodLink own index y ∈ hAll) (ki : Cond.instanceMethod y ∈ hAll) (ks : Cond.selects C y y ∈ hAll) (kn : Cond.initialized C ∈ hAll)
    (hd : y.cls = C ∧ y.cls ≠ "java/lang/invoke/MethodHandle" ∧ y.cls ≠ "java/lang/invoke/VarHandle" ∧ (parseMethodDescriptor y.desc).map (fun d => d.parameters.length) = some n)
    (hc : vwCl[ci]? = some (C, T, N)) (he : ah b = some (.inr (ci, fs))) (hn : As.length = n) (hsize : ls.size = nL) (hstack : st0 = As.reverse ++ .ref b :: rest) (hcat : (rest.map fun v => v.category).sum ≤ 8) (hdg : decode cc pc = .ok (.invokevirtual index, 3)) (hR : hRm rm' R maxL' mc ms cells slots)
    (kx : ∀ (E : String) (ce : Cell) (q : Addr) (H1 : Heap) (locs1 : List Loc), px E → hW D ah0 s.heap ah H1 locs1 → H1[q]? = some ce → ce.vm = .none → s.vm.findClass E = some ce.cls → vx_W p l e R s m args below meth c H1 locs1 (cells + mc) (slots + ms) Q (F0 m pc ls rest) q)
    (kk : ∀ (r : Option Value) (ah' : hA) (H1 : Heap) (locs1 : List Loc) (st1 : List Value), post r ah' → hW D ah0 s.heap ah' H1 locs1 → st1 = r.toList ++ rest → W p l e R s m args below meth c H1 locs1 (cells + mc) (slots + ms) Q (F0 m (pc + 3) ls st1)) : W p l e R s m args below meth c H locs cells slots Q (F0 m pc ls st0) :=
  h_callX (vx_runV S hM (cwV n S.2.2.2.2 (h_gV km ki ks kn ko) rfl hR.1 hR.2.1 hd ⟨hR.2.2.1, hR.2.2.2.1⟩) (h_preXV hK hx hw hc he) rfl hn hsize hstack (lv_room hcat) hdg hR.2.2.2.2) hw kx kk
theorem x_at {args : Array Value} {s : State} {ah : hA} {sz : Nat} {L : List Cond} (hL : ∀ w ∈ L, w ∈ xAll) (hts : ∀ w ∈ hAll, w.before args s = true) (hx : hX ah sz s) : ∀ w ∈ L, w.before args s = true := fun w hw => by
  by_cases hg : goodWord w = true
  · have h1 := List.all_eq_true.mp xGood w (List.mem_filter.mpr ⟨hL w hw, hg⟩)
    exact hts w (List.mem_filter.mpr ⟨of_decide_eq_true h1, hg⟩)
  · have h2 : w ∈ xBad := List.mem_filter.mpr ⟨hL w hw, by simp [hg]⟩
    have h3 := List.all_eq_true.mp xBad_ok w h2
    simp only [Bool.and_eq_true] at h3
    exact va_Nw.use h3.1 (hx.2.1 w h2)
/-- 'throw new E("text")' -/
theorem h_throw {cls text : String} {ik is ic mc ms sz : Nat} {post : Option Value → hA → Prop} {px : String → Prop} (hexec : p.tables.exec = Jvm.exec) (hb : c.code = cc) (hl : l.stackTraces = false) (hown : s.vm.findClass RX9 = some m.cls) (hcls : Bundle.fit cls = true)
    (hts : ∀ w ∈ hAll, w.before args s = true) (kk : Cond.classLink RX9 ik cls ∈ hAll) (kn : Cond.initialized cls ∈ hAll) (hx : hX ah s.heap.size s) (hq : (is, text) ∈ xStr) (hL : ∀ w ∈ vx_atS RX9 ic cls xNm, w ∈ xAll) (hgood : (Cond.classLink RX9 ik cls :: Cond.initialized cls :: vx_atS RX9 ic cls xNm).all vx_ot = true)
    (hw : hW D ah s.heap ah H locs) (hsize : ls.size = c.maxLocals) (hsz : s.heap.size = sz)
    (d0 : decode cc pc = .ok (.new ik, 3)) (d3 : decode cc (pc + 3) = .ok (.dup, 1)) (d4 : decode cc (pc + 4) = .ok (.ldc is, 2)) (d6 : decode cc (pc + 6) = .ok (.invokespecial ic, 3)) (d9 : decode cc (pc + 9) = .ok (.athrow, 1))
    (hout : ∀ x ∈ c.exceptionTable.toList, False) (hRf : 5 < R.frames) (hRl : (rest.map fun v => v.category).sum + 82 ≤ R.locals) (hRc : cells + 1 ≤ R.cells) (hRs : slots + 6 ≤ R.slots) (hlocks : meth.locks = false) (hp : px cls) (hc : cells + 1 ≤ mc) (hs : slots + 6 ≤ ms) :
    W p l e R s m args below meth c H locs cells slots (vx_MQ below (hPost D ah sz post) (hXC D ah sz px) args s mc ms (hFr ah sz)) (F0 m pc ls rest) := by
  subst hsz
  obtain ⟨sa, hsa⟩ := hx.1 _ hq
  exact vx_throwS hexec hb hl hown hcls (by decide +kernel) (hts _ kk) (hts _ kn) hsa (x_at hL hts hx) (fun w h => List.all_eq_true.mp hgood w h) hx.2.2.1 hx.2.2.2 hw.2.1 hsize d0 d3 d4 d6 d9 (fun x h => absurd h (hout x)) hRf hRl hRc hRs hlocks
    (fun t _ hz hk => ⟨hp, fun a e9 h9 => (hw.1 a e9 h9).kept (hk a (hw.1 a e9 h9).lt), ⟨Nat.le_trans hw.2.1.1 hz, fun q h1 h2 => (hk q (Nat.lt_of_lt_of_le h1 hw.2.1.1)).trans (hw.2.1.2.1 q h1 h2)⟩⟩) hw.2.1.2.2 hc hs
end XROWS
theorem h_metX {l : Launch} {y : MethodName} {rm : Room} {D : va_G} {dT : Nat → ClassId} {av : List Value} {ah : hA} {sz : Nat} {post : Option Value → hA → Prop} {px : String → Prop} {mc ms : Nat} {cc : ByteArray} {maxL : Nat} {ret : Option FieldType}
    (hy : plainName y.cls = true) (hlen : (lg_sl av).length ≤ maxL)
    (body : ∀ (p : Program) (e : Env) (s : State) (m : MethodId) (below : List Frame) (meth : Method) (c : Code) (ls : Array Slot) (R : Room) (Q : State → Prop) (args : Array Value), args = av.toArray → R = rm → Q = vx_MQ below (hPost D ah sz post) (hXC D ah sz px) args s mc ms (hFr ah sz) → hB p s m args meth c cc maxL ret y D dT → lv_has ls maxL (lv_args 0 av) → s.heap.size = sz → hW D ah s.heap ah s.heap [] → hX ah s.heap.size s → (∀ x ∈ c.exceptionTable.toList, False) →
      W p l e R s m args below meth c s.heap [] 0 0 Q (F0 m 0 ls [])) : hMetX l y cc maxL ret rm D dT av ah sz post px mc ms := by
  refine vx_ofW hy rfl ?_
  intro p e s m args below meth c s₁ B hml ht hv
  obtain ⟨rfl, hsz, hh, hK, hX9⟩ := hv
  have hl := lv_entry av (n := maxL) hlen
  rw [lg_entry_eq]
  generalize (lg_sl av ++ List.replicate (maxL - (lg_sl av).length) Slot.unset).toArray = ls at hl ⊢
  have hts := atoms_spec (ws := Cond.code y cc maxL ret :: hAll) B.pre
  exact body p e s m below meth c ls _ _ _ rfl rfl rfl ⟨B.exec, B.bytes, hml, B.returns, fun w h => hts w (List.mem_cons_of_mem _ h), findClass_of_methodNamed B.named, B.notSynchronized, (name_of_methodNamed B.named B.method).1, hK⟩ hl hsz (hW.rf hh) (by rw [hsz]; exact hX9) ht
theorem kn_IAE : Cond.initialized "java/lang/IllegalArgumentException" ∈ hAll := List.mem_filter.mpr ⟨by decide +kernel, by decide +kernel⟩
theorem kn_ISE : Cond.initialized "java/lang/IllegalStateException" ∈ hAll := List.mem_filter.mpr ⟨by decide +kernel, by decide +kernel⟩
theorem kn_UOE : Cond.initialized "java/lang/UnsupportedOperationException" ∈ hAll := List.mem_filter.mpr ⟨by decide +kernel, by decide +kernel⟩
theorem kn_IOE : Cond.initialized "java/lang/IndexOutOfBoundsException" ∈ hAll := List.mem_filter.mpr ⟨by decide +kernel, by decide +kernel⟩
theorem xl_IAE : ∀ w ∈ vx_atS RX9 48 "java/lang/IllegalArgumentException" xNm, w ∈ xAll := fun w h => List.mem_append_left _ h
theorem xl_ISE : ∀ w ∈ vx_atS RX9 59 "java/lang/IllegalStateException" xNm, w ∈ xAll := fun w h => List.mem_append_right _ (List.mem_append_left _ h)
theorem xl_UOE : ∀ w ∈ vx_atS RX9 64 "java/lang/UnsupportedOperationException" xNm, w ∈ xAll := fun w h => List.mem_append_right _ (List.mem_append_right _ (List.mem_append_left _ h))
theorem xl_IOE : ∀ w ∈ vx_atS RX9 127 "java/lang/IndexOutOfBoundsException" xNm, w ∈ xAll := fun w h => List.mem_append_right _ (List.mem_append_right _ (List.mem_append_right _ h))
theorem xg_IAE : (Cond.classLink RX9 44 "java/lang/IllegalArgumentException" :: Cond.initialized "java/lang/IllegalArgumentException" :: vx_atS RX9 48 "java/lang/IllegalArgumentException" xNm).all vx_ot = true := by decide +kernel
theorem xg_ISE : (Cond.classLink RX9 55 "java/lang/IllegalStateException" :: Cond.initialized "java/lang/IllegalStateException" :: vx_atS RX9 59 "java/lang/IllegalStateException" xNm).all vx_ot = true := by decide +kernel
theorem xg_UOE : (Cond.classLink RX9 60 "java/lang/UnsupportedOperationException" :: Cond.initialized "java/lang/UnsupportedOperationException" :: vx_atS RX9 64 "java/lang/UnsupportedOperationException" xNm).all vx_ot = true := by decide +kernel
theorem xg_IOE : (Cond.classLink RX9 123 "java/lang/IndexOutOfBoundsException" :: Cond.initialized "java/lang/IndexOutOfBoundsException" :: vx_atS RX9 127 "java/lang/IndexOutOfBoundsException" xNm).all vx_ot = true := by decide +kernel

/-! System.arraycopy of ints from the beginning of one array to the beginning of another -/
section HCOPY
variable {p : Program} {l : Launch} {e : Env} {R : Room} {s : State} {m : MethodId} {args : Array Value} {below : List Frame} {meth : Method} {c : Code} {H : Heap} {locs : List Loc} {cells slots : Nat} {Q : State → Prop}
variable {cc : ByteArray} {pc : Nat} {ls : Array Slot} {rest : List Value} {D : va_G} {dT : Nat → ClassId} {ah0 ah : hA} {H0 : Heap} {a : Nat}
theorem h_copyi (hexec : p.tables.exec = Jvm.exec) (hb : c.code = cc) (hml : c.maxLocals = ls.size) {own : String} {index : Nat} (hown : s.vm.findClass own = some m.cls) (hlink : (Cond.methodLink own index arraycopyName).before args s = true) (hnat : (Cond.native arraycopyName).before args s = true) (hstat : (Cond.static arraycopyName).before args s = true) (hini : (Cond.initialized "java/lang/System").before args s = true)
    (hK : hC D dT s) (hw : hW D ah0 H0 ah H locs) {a0 n0 n1 : Nat} {f g : Nat → Int32} (ha0 : ah a0 = some (.inl (dT 0, n0, .inl f))) (ha1 : ah a = some (.inl (dT 0, n1, .inl g))) (k : Nat) (h4 : k ≤ n0) (h5 : k ≤ n1) (hk : k < 2 ^ 31)
    (hframes : 1 ≤ R.frames) (hlocals : (rest.map fun v => v.category).sum + (nativeFrameWords "java/lang/System" "arraycopy" 5 + 11) ≤ R.locals) (hdg : decode cc pc = .ok (.invokestatic index, 3))
    (kk : ∀ (H1 : Heap) (locs1 : List Loc), hW D ah0 H0 (hup ah a (.inl (dT 0, n1, .inl (va_cpy f g 0 0 k)))) H1 locs1 → W p l e R s m args below meth c H1 locs1 cells slots Q (F0 m (pc + 3) ls rest)) : W p l e R s m args below meth c H locs cells slots Q (F0 m pc ls (.int (nI k) :: .int 0 :: .ref a :: .int 0 :: .ref a0 :: rest)) := by
  intro T hT X
  have hc0 : H[a0]? = some (vp_cell (dT 0) (n0, .inl f)) := hw.1 a0 _ ha0
  have hc1 : H[a]? = some (vp_cell (dT 0) (n1, .inl g)) := hw.1 a _ ha1
  obtain ⟨-, k0, hk0, cm0, hkk0⟩ := (hK.1.2 0 _ rfl).1 n0 (fun j => .int (f j))
  obtain ⟨-, k1, hk1, cm1, hkk1⟩ := (hK.1.2 0 _ rfl).1 n1 (fun j => .int (g j))
  have z0 : (0 : Int32).toNatClampNeg = 0 := by decide
  have zk : (nI k).toNatClampNeg = k := nI_clamp hk
  have tk : (nI k).toInt = (k : Int) := nI_toInt hk
  obtain ⟨vm', X', step⟩ := X.arraycopy hexec hown hlink hnat hstat hini (src := a0) (dst := a) (cs := vp_cell (dT 0) (n0, .inl f)) (cd := vp_cell (dT 0) (n1, .inl g)) (srcPos := 0) (destPos := 0) (n := nI k) (by rw [hT]; exact hc0) (by rw [hT]; exact hc1)
    (fun _ h => by cases h) (fun _ h => by cases h) (fun h => by cases h) (fun h => by cases h) hk0 hk1 hkk0 hkk1 (by simp [refKind]) (by decide) (by decide) (nI_pos hk)
    (by rw [tk]; show ¬ _ > ((arrV (dT 0) n0 (fun j => .int (f j))).slots.size : Int); rw [arrV_size]; simp; omega)
    (by rw [tk]; show ¬ _ > ((arrV (dT 0) n1 (fun j => .int (g j))).slots.size : Int); rw [arrV_size]; simp; omega)
    (fun vm₁ _ i hi => by
      rw [zk] at hi
      have e : (vp_cell (dT 0) (n0, .inl f)).slots.getD ((0 : Int32).toNatClampNeg + i) .null = .int (f i) := by
        show (arrV (dT 0) n0 (fun j => .int (f j))).slots.getD _ _ = _
        rw [z0, Nat.zero_add, Array.getD_eq_getD_getElem?, arrV_read _ _ (by omega)]
        rfl
      refine ⟨?_, ?_⟩
      · rw [e]; rfl
      · rw [e]; exact trivial)
    (g := F0 m pc ls (.int (nI k) :: .int 0 :: .ref a :: .int 0 :: .ref a0 :: rest)) rfl (by rw [hml]) (rest := rest) rfl (by rw [hb]; exact hdg) hframes (by show 2 * 0 + _ + _ ≤ _; omega)
  have e1 : copied (vp_cell (dT 0) (n0, .inl f)) (vp_cell (dT 0) (n1, .inl g)) 0 0 (nI k) = vp_cell (dT 0) (n1, .inl (va_cpy f g 0 0 k)) := by
    have h := va_copied (fun z => .int z) (dT 0) (dT 0) (n0 := n0) (n1 := n1) (sp := 0) (dp := 0) (n := k) f g (by omega)
    show (arrV (dT 0) n1 (fun j => .int (g j))).storeRun ((0 : Int32).toNatClampNeg) ((arrV (dT 0) n0 (fun j => .int (f j))).stretch ((0 : Int32).toNatClampNeg) ((nI k).toNatClampNeg)) = _
    rw [z0, zk]
    exact h
  rw [e1] at X' step
  have hl : a < H.size := (Array.getElem?_eq_some_iff.mp hc1).1
  have hheap : ((T.setVm vm').setCell a (vp_cell (dT 0) (n1, .inl (va_cpy f g 0 0 k)))).heap = H.setIfInBounds a (vp_cell (dT 0) (n1, .inl (va_cpy f g 0 0 k))) := by rw [← hT]; rfl
  have oq : ∀ q : Nat, q ≠ a → (H.setIfInBounds a (vp_cell (dT 0) (n1, .inl (va_cpy f g 0 0 k))))[q]? = H[q]? := fun q hq => by simp [Array.getElem?_setIfInBounds, Ne.symm hq]
  have hat : va_at D vwCl (a, .inl (dT 0, n1, .inl (va_cpy f g 0 0 k))) (H.setIfInBounds a (vp_cell (dT 0) (n1, .inl (va_cpy f g 0 0 k)))) := by
    show (H.setIfInBounds a _)[a]? = some _
    simp [Array.getElem?_setIfInBounds, hl]
  have hw1 := hw.put (i := 0) ha1 (by simp) oq hat
  have hA := hw.2.2 a _ ha1
  obtain ⟨t, a1, b1⟩ := kk _ _ ⟨hw1.1, ⟨by simp; exact hw.2.1.1, hw1.2.1.2.1, fun q hq => by
      rcases List.mem_append.mp hq with h | h
      · exact hw.2.1.2.2 q h
      · obtain ⟨z, -, hz⟩ := List.mem_map.mp h
        rw [← hz]
        exact hA⟩, hw1.2.2⟩ _ hheap X'
  exact ⟨t, step t a1, b1⟩
end HCOPY

/-! What the law's start gives -/
theorem hN_tbl : hN.all (fun w => decide (w ∈ lw_tbl) && w.onTables) = true := by decide +kernel
theorem xBad_tbl : xBad.all (fun w => decide (w ∈ lw_tbl)) = true := by decide +kernel
theorem xStr_tbl : xStr.all (fun q => decide (Cond.stringRef RX9 q.1 q.2 ∈ lw_tbl)) = true := by decide +kernel
section
variable {s : State} {args : Array Value}
theorem ls_k (hts : ∀ w ∈ hAll, w.before args s = true) : ∃ D : va_G, ∀ (c : Nat) (q : vw_C), vwCl[c]? = some q → u_Kn s q.1 q.2.1 q.2.2 (D.1 c) (D.2 c) := by
  obtain ⟨c0, i0, h0⟩ := u_known (C := RX0) (T := TX0) (N := 4) (n := 4) hts kl_X0 (hts _ ka_X0)
  obtain ⟨c1, i1, h1⟩ := u_known (C := RX1) (T := TX1) (N := 2) (n := 2) hts kl_X1 (hts _ ka_X1)
  obtain ⟨c2, i2, h2⟩ := u_known (C := RX2) (T := TX2) (N := 4) (n := 4) hts kl_X2 (hts _ ka_X2)
  obtain ⟨c3, i3, h3⟩ := u_known (C := RX3) (T := TX3) (N := 2) (n := 2) hts kl_X3 (hts _ ka_X3)
  obtain ⟨c4, i4, h4⟩ := u_known (C := RX4) (T := TX4) (N := 2) (n := 2) hts kl_X4 (hts _ ka_X4)
  obtain ⟨c5, i5, h5⟩ := u_known (C := RX5) (T := TX5) (N := 7) (n := 7) hts kl_X5 (hts _ ka_X5)
  obtain ⟨c6, i6, h6⟩ := u_known (C := RX6) (T := TX6) (N := 2) (n := 2) hts kl_X6 (hts _ ka_X6)
  obtain ⟨c7, i7, h7⟩ := u_known (C := RX7) (T := TX7) (N := 8) (n := 8) hts kl_X7 (hts _ ka_X7)
  obtain ⟨c8, i8, h8⟩ := u_known (C := RX8) (T := TX8) (N := 8) (n := 8) hts kl_X8 (hts _ ka_X8)
  obtain ⟨c9, i9, h9⟩ := u_known (C := RX9) (T := TX9) (N := 4) (n := 4) hts kl_X9 (hts _ ka_X9)
  obtain ⟨c10, i10, h10⟩ := u_known (C := RX10) (T := TX10) (N := 26) (n := 26) hts kl_X10 (hts _ ka_X10)
  refine ⟨(fun k => [c0, c1, c2, c3, c4, c5, c6, c7, c8, c9, c10].getD k 0, fun k => [i0, i1, i2, i3, i4, i5, i6, i7, i8, i9, i10].getD k i0), ?_⟩
  intro k q hq
  match k, hq with
  | 0, hq => cases hq; exact h0
  | 1, hq => cases hq; exact h1
  | 2, hq => cases hq; exact h2
  | 3, hq => cases hq; exact h3
  | 4, hq => cases hq; exact h4
  | 5, hq => cases hq; exact h5
  | 6, hq => cases hq; exact h6
  | 7, hq => cases hq; exact h7
  | 8, hq => cases hq; exact h8
  | 9, hq => cases hq; exact h9
  | 10, hq => cases hq; exact h10
  | k + 11, hq => simp at hq
theorem ls_p {t : FieldType} (ht : ∀ C, t ≠ .object C) (h : (Cond.arrayClass t).before args s = true) : ∃ cA, ArrOfT s cA t ∧ va_RA s cA t := by
  obtain ⟨cA, k, comp, h1, h2, h3⟩ := Cond.arrayClass_spec h
  refine ⟨cA, fun N z => ⟨fun k h => ?_, k, h2, comp, h3⟩, ?_⟩
  · cases h
  · cases t <;> first | exact absurd rfl (ht _) | exact h1
theorem ls_q {C : String} (h : (Cond.arrayOver (.object C)).before args s = true) : ∃ cA, ArrOfT s cA (.object C) ∧ va_RA s cA (.object C) := by
  obtain ⟨comp, cA, k, h1, h2, h3, h4, h5⟩ := Cond.arrayOver_spec h
  exact ⟨cA, fun N z => ⟨(fun k h => by cases h), k, h3, comp, h4⟩, k, comp, h3, h4, h1, h5⟩
theorem ls_C (hts : ∀ w ∈ lw_tbl, w.before args s = true) : ∃ (D : va_G) (dT : Nat → ClassId), hC D dT s := by
  have hta : ∀ w ∈ hAll, w.before args s = true := fun w hw => hts w (List.mem_filter.mp hw).1
  obtain ⟨D, hD⟩ := ls_k hta
  have o7 : (Cond.arrayOver (.object RX7)).before args s = true := hts _ (by decide +kernel)
  have o5 : (Cond.arrayOver (.object RX5)).before args s = true := hts _ (by decide +kernel)
  have o4 : (Cond.arrayOver (.object RX4)).before args s = true := hts _ (by decide +kernel)
  obtain ⟨a0, g0⟩ := ls_p (t := .int) (by intro C h; cases h) (hta _ kA_int)
  obtain ⟨a1, g1⟩ := ls_p (t := .long) (by intro C h; cases h) (hta _ kA_long)
  obtain ⟨a2, g2⟩ := ls_q o7
  obtain ⟨a3, g3⟩ := ls_q o5
  obtain ⟨a4, g4⟩ := ls_q o4
  refine ⟨D, fun k => [a0, a1, a2, a3, a4].getD k 0, ⟨hD, ?_⟩, fun w hw => ?_, va_AO.of o7, va_AO.of o5, va_AO.of o4⟩
  · intro k q hq
    match k, hq with
    | 0, hq => cases hq; exact g0
    | 1, hq => cases hq; exact g1
    | 2, hq => cases hq; exact g2
    | 3, hq => cases hq; exact g3
    | 4, hq => cases hq; exact g4
    | k + 5, hq => simp [hTy] at hq
  · have h := List.all_eq_true.mp hN_tbl w hw
    simp only [Bool.and_eq_true, decide_eq_true_eq] at h
    exact va_Nw.of h.2 (hts w h.1)
theorem ls_X {D : va_G} {dT : Nat → ClassId} (hK : hC D dT s) (hts : ∀ w ∈ lw_tbl, w.before args s = true) (hgv : (Jvm.Cond.and given_1 narrow_1).before args s = true) : hX (fun _ => none) s.heap.size s := by
  have hA : ∀ a : Nat, a < s.heap.size → ¬ hFr (fun _ => none) s.heap.size a := fun a h1 h2 => h2.elim (fun ⟨e, h⟩ => by cases h) (fun h => by omega)
  have hfl := flat_of_before _ hgv
  refine ⟨fun q hq => ?_, fun w hw => ?_, ?_, ?_⟩
  · have h := of_decide_eq_true (List.all_eq_true.mp xStr_tbl q hq)
    obtain ⟨k, cf, i, a, -, -, -, -, -, hev⟩ := Cond.stringRef_spec (hK.1.1 9 _ rfl).2.1 (hts _ h)
    exact ⟨a, vk_R.of (hts _ h) hev⟩
  · have h1 := List.all_eq_true.mp xBad_ok w hw
    simp only [Bool.and_eq_true] at h1
    exact va_Nw.of h1.1 (hts w (of_decide_eq_true (List.all_eq_true.mp xBad_tbl w hw)))
  · exact vx_Zqof (hts _ (by decide +kernel)) (hts _ (by decide +kernel)) (hfl _ (by decide +kernel)) hA
  · exact vx_Zqof (hts _ (by decide +kernel)) (hts _ (by decide +kernel)) (hfl _ (by decide +kernel)) hA
theorem ls_Y (hts : ∀ w ∈ lw_tbl, w.before args s = true) (hgv : (Jvm.Cond.and given_1 narrow_1).before args s = true) : hY s := by
  have hfl := flat_of_before _ hgv
  refine ⟨fun w hw => ?_, va_Nc.of (hfl _ (by decide +kernel)), va_Nc.of (hfl _ (by decide +kernel)), va_Nc.of (hfl _ (by decide +kernel))⟩
  have h1 := List.all_eq_true.mp xY_ok w hw
  simp only [Bool.and_eq_true] at h1
  exact va_Nw.of h1.1 (hts w (of_decide_eq_true (List.all_eq_true.mp xY_tbl w hw)))
theorem hW_0 {D : va_G} {H : Heap} : hW D (fun _ => none) H (fun _ => none) H [] := ⟨fun a e h => (by cases h), ⟨Nat.le_refl _, fun q _ _ => rfl, fun q h => absurd h List.not_mem_nil⟩, fun q e h => (by cases h)⟩
end

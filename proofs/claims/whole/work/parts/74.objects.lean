/-! the law's objects -/
def lwS (RA AR : Nat → Nat) (pa : Nat) : Prop := (∀ i j, i < 7 → j < 14 → RA i ≠ AR j) ∧ ∀ j, j < 14 → pa ≠ AR j
section
variable {dT : Nat → ClassId} {ah ah2 : hA} {sj sh fd ins pa mt mo : Nat} {RO RA RA2 cap AR : Nat → Nat} {ns nc np no rc : Nat} {f g : Nat → Nat → Int32} {q : Nat → Int32} {wh : Int32} {pl : Nat → Int32} {jd : Bool}
/-- the class's calls leave the model alone -/
theorem m_keep (hj : cjA dT ah sj sh fd ins pa mt RO RA cap ns nc np no rc f wh pl jd) (hm : moA dT ah mo AR q g) (hS : lwS RA AR pa) (hk : cjK ah ah2 sj sh fd ins pa mt RO RA) : moA dT ah2 mo AR q g := by
  obtain ⟨h1, ⟨shp, mx, my, i1, i2, i3, i4⟩, ⟨s1, s2, s3⟩, h4⟩ := hj
  refine ⟨hk _ _ hm.1 (h_ne hm.1 h1 (by simp)) (h_ne hm.1 s1 (by simp)) (h_ne hm.1 i2 (by simp)) (h_ne hm.1 i1 (by simp)) (h_ne hm.1 i3 (by simp)) (h_ne hm.1 i4 (by simp)) (fun k hk7 => ⟨h_ne hm.1 (s2 k hk7).1 (by simp), h_ne hm.1 (s2 k hk7).2.1 (by simp)⟩), fun k hk14 => ?_, hm.2.2⟩
  have ha := hm.2.1 k hk14
  exact hk _ _ ha (h_ne ha h1 (by simp)) (h_ne ha s1 (by simp)) (h_ne ha i2 (by simp)) (h_ne ha i1 (by simp)) (fun h9 => hS.2 k hk14 h9.symm) (h_ne ha i4 (by simp)) (fun i hi => ⟨h_ne ha (s2 i hi).1 (by simp), fun h9 => hS.1 i k hi hk14 h9.symm⟩)
theorem o_keep (hj : cjA dT ah sj sh fd ins pa mt RO RA cap ns nc np no rc f wh pl jd) (hk : cjK ah ah2 sj sh fd ins pa mt RO RA) {out n : Nat} {fL : Nat → Int64} (ho : ah out = some (.inl (dT 1, n, .inr (.inl fL)))) : ah2 out = some (.inl (dT 1, n, .inr (.inl fL))) := by
  obtain ⟨h1, ⟨shp, mx, my, i1, i2, i3, i4⟩, ⟨s1, s2, s3⟩, h4⟩ := hj
  exact hk _ _ ho (h_ne ho h1 (by simp)) (h_ne ho s1 (by simp)) (h_ne ho i2 (by simp)) (h_ne ho i1 (by simp)) (h_ne ho i3 (by simp)) (h_ne ho i4 (by simp)) (fun k hk7 => ⟨h_ne ho (s2 k hk7).1 (by simp), h_ne ho (s2 k hk7).2.1 (by simp)⟩)
/-- the model's calls leave the class alone -/
theorem c_keep (hj : cjA dT ah sj sh fd ins pa mt RO RA cap ns nc np no rc f wh pl jd) (hm : moA dT ah mo AR q g) (hS : lwS RA AR pa) (hk : moFr ah ah2 mo AR) : cjA dT ah2 sj sh fd ins pa mt RO RA cap ns nc np no rc f wh pl jd := by
  obtain ⟨h1, ⟨shp, mx, my, i1, i2, i3, i4⟩, ⟨s1, s2, s3⟩, h4⟩ := hj
  have ob : ∀ {a ci : Nat} {fs : List Value}, ci ≠ 10 → ah a = some (.inr (ci, fs)) → ah2 a = some (.inr (ci, fs)) := fun hc h => hk _ _ h (h_ne h hm.1 (by simp [hc])) (fun k hk14 => h_ne h (hm.2.1 k hk14) (by simp))
  refine ⟨ob (by decide) h1, ⟨shp, mx, my, ob (by decide) i1, ob (by decide) i2, hk _ _ i3 (h_ne i3 hm.1 (by simp)) hS.2, ob (by decide) i4⟩, ⟨ob (by decide) s1, fun k hk7 => ⟨ob (by decide) (s2 k hk7).1, hk _ _ (s2 k hk7).2.1 (h_ne (s2 k hk7).2.1 hm.1 (by simp)) (fun j hj => hS.1 k j hk7 hj), (s2 k hk7).2.2⟩, s3⟩, h4⟩
theorem oc_keep (hm : moA dT ah mo AR q g) (hk : moFr ah ah2 mo AR) {out n : Nat} {fL : Nat → Int64} (ho : ah out = some (.inl (dT 1, n, .inr (.inl fL)))) : ah2 out = some (.inl (dT 1, n, .inr (.inl fL))) :=
  hk _ _ ho (h_ne ho hm.1 (by simp)) (fun k hk14 => h_ne ho (hm.2.1 k hk14) (by simp))
theorem fr_up {e : va_E} (h : ah2 = hup ah mo e) : moFr ah ah2 mo AR := fun a x ha h1 _ => by rw [h, hup_n h1]; exact ha
theorem fr_k {q2 : Nat → Int32} {g2 : Nat → Nat → Int32} (h : moK dT ah ah2 mo AR q g q2 g2) : moFr ah ah2 mo AR := fun a x ha h1 h2 => h.2.2.2 a x ha h1 (h2 12 (by decide)) (h2 13 (by decide))
theorem sep_2 (hm : moA dT ah mo AR q g) (hS : lwS RA AR pa) (h : ∀ k, k < 7 → RA2 k = RA k ∨ ah (RA2 k) = none) : lwS RA2 AR pa := by
  refine ⟨fun i j hi hj h9 => ?_, hS.2⟩
  rcases h i hi with h1 | h1
  · exact hS.1 i j hi hj (h1.symm.trans h9)
  · rw [h9, hm.2.1 j hj] at h1; cases h1
end
/-- what holds before a call of the law: k calls were made; cr and sr are what a judging would yet take -/
def lwI (dT : Nat → ClassId) (ah : hA) (sj mo out k cr sr : Nat) : Prop := ∃ (sh fd ins pa mt : Nat) (RO RA cap AR : Nat → Nat) (ns nc np nr no : Nat) (f g : Nat → Nat → Int32) (q : Nat → Int32) (wh : Int32) (pl : Nat → Int32) (jd : Bool) (FC FP FG RC PF PC RP RN OP : Nat → Nat) (PA : Nat → Int32) (fL : Nat → Int64),
  cjA dT ah sj sh fd ins pa mt RO RA cap ns nc np no nr f wh pl jd ∧ moA dT ah mo AR q g ∧ jI ns nc np nr no f g q wh pl jd FC FP FG RC PF PC RP RN OP PA ∧ ah out = some (.inl (dT 1, 1, .inr (.inl fL))) ∧ lwS RA AR pa ∧ ns + nr + np ≤ k ∧ cr = (if jd = true then 0 else 5 * ns + 3 * nc + 2 * np) ∧ sr = (if jd = true then 0 else 3 * ns + 14 * nc + 13 * np)
section
variable {dT : Nat → ClassId} {ah ah1 ah2 : hA} {sj sh fd ins pa mt mo out k : Nat} {RO RA cap AR : Nat → Nat} {ns nc np nr no : Nat} {f g : Nat → Nat → Int32} {q q2 : Nat → Int32} {wh : Int32} {pl : Nat → Int32} {jd : Bool} {FC FP FG RC PF PC RP RN OP : Nat → Nat} {PA : Nat → Int32} {fL : Nat → Int64}
/-- both refused, or neither changed anything -/
theorem lw_same (hj : cjA dT ah sj sh fd ins pa mt RO RA cap ns nc np no nr f wh pl jd) (hm : moA dT ah mo AR q g) (hI : jI ns nc np nr no f g q wh pl jd FC FP FG RC PF PC RP RN OP PA) (ho : ah out = some (.inl (dT 1, 1, .inr (.inl fL)))) (hS : lwS RA AR pa) (hk : ns + nr + np ≤ k) (hq : ∀ i, 1 ≤ i → i < 6 → q2 i = q i)
    (e : ah2 = hup ah mo (.inr (10, moF q2 AR))) : lwI dT ah2 sj mo out (k + 1) (if jd = true then 0 else 5 * ns + 3 * nc + 2 * np) (if jd = true then 0 else 3 * ns + 14 * nc + 13 * np) :=
  ⟨sh, fd, ins, pa, mt, RO, RA, cap, AR, ns, nc, np, nr, no, f, g, q2, wh, pl, jd, FC, FP, FG, RC, PF, PC, RP, RN, OP, PA, fL, c_keep hj hm hS (fr_up e), moA_q hm e, jI_q hI hq, oc_keep hm (fr_up e) ho, hS, by omega, rfl, rfl⟩
theorem out_up (hm : moA dT ah mo AR q g) {fL2 : Nat → Int64} (ho : ah out = some (.inl (dT 1, 1, .inr (.inl fL)))) : moA dT (hup ah out (.inl (dT 1, 1, .inr (.inl fL2)))) mo AR q g :=
  ⟨by rw [hup_n (h_ne hm.1 ho (by simp))]; exact hm.1, fun k hk => by rw [hup_n (h_ne (hm.2.1 k hk) ho (by simp))]; exact hm.2.1 k hk, hm.2.2⟩
theorem out_cj (hj : cjA dT ah sj sh fd ins pa mt RO RA cap ns nc np no nr f wh pl jd) {fL2 : Nat → Int64} (ho : ah out = some (.inl (dT 1, 1, .inr (.inl fL)))) : cjA dT (hup ah out (.inl (dT 1, 1, .inr (.inl fL2)))) sj sh fd ins pa mt RO RA cap ns nc np no nr f wh pl jd := by
  obtain ⟨h1, ⟨shp, mx, my, i1, i2, i3, i4⟩, ⟨s1, s2, s3⟩, h4⟩ := hj
  have kp : ∀ {a : Nat} {e : va_E}, ah a = some e → e ≠ .inl (dT 1, 1, .inr (.inl fL)) → hup ah out (.inl (dT 1, 1, .inr (.inl fL2))) a = some e := fun h hne => (hup_n (h_ne h ho hne)).trans h
  exact ⟨kp h1 (by simp), ⟨shp, mx, my, kp i1 (by simp), kp i2 (by simp), kp i3 (by simp), kp i4 (by simp)⟩, ⟨kp s1 (by simp), fun k hk7 => ⟨kp (s2 k hk7).1 (by simp), kp (s2 k hk7).2.1 (by simp), (s2 k hk7).2.2⟩, s3⟩, h4⟩
theorem hOQ (hI : jI ns nc np nr no f g q wh pl jd FC FP FG RC PF PC RP RN OP PA) : ∀ j, j < no → g 11 j = nI (OP j) ∧ OP j < ns := fun j hj => (hI.2.2.1.1 j hj).2
end

/-! the calls: what they leave -/
def nup (f : Nat → Nat) (i v : Nat) : Nat → Nat := fun k => if k = i then v else f k
theorem nup_s {f : Nat → Nat} {i v : Nat} : nup f i v i = v := if_pos rfl
theorem nup_n {f : Nat → Nat} {i v k : Nat} (h : k ≠ i) : nup f i v k = f k := if_neg h
section
variable {ns nc np nr no : Nat} {f g : Nat → Nat → Int32} {q : Nat → Int32} {wh : Int32} {pl : Nat → Int32} {jd : Bool} {FC FP FG RC PF PC RP RN OP : Nat → Nat} {PA : Nat → Int32}
theorem jI_0 (hq : moN q 0 0 0 0 0) (hm : ∀ j, j < 7 → pl j = -1) (hg : ∀ j, j < 7 → g 12 j = pl j) : jI 0 0 0 0 0 f g q 0 pl false (fun _ => 0) (fun _ => 0) (fun _ => 0) (fun _ => 0) (fun _ => 0) (fun _ => 0) (fun _ => 0) (fun _ => 0) (fun _ => 0) (fun _ => 0) := by
  refine ⟨⟨⟨fun k hk => by omega, rfl, fun k hk => by omega, rfl, fun k hk => by omega, fun k hk => by omega⟩, ⟨by omega, fun s hs => by omega⟩, ⟨by omega, fun j hj => by omega⟩, ⟨by omega, fun r hr => by omega⟩, fun j hj => by omega, fun s hs => by omega, ⟨rfl, rfl, rfl, Nat.le_refl _⟩, fun s hs => by omega, fun w s _ hs => by omega⟩, hq, ⟨fun j hj => by omega, fun j hj => by omega, fun h => by omega, fun j hj => by omega⟩, fun _ => ⟨rfl, hm⟩, (fun h => by cases h), hg⟩
/-- close -/
theorem jI_close (h : jI ns nc np nr no f g q wh pl jd FC FP FG RC PF PC RP RN OP PA) (hn : ¬ no = 0) {q2 : Nat → Int32} (hq : moN q2 ns (2 * ns + nr) np nr (no - 1)) : jI ns nc np nr (no - 1) f g q2 wh pl jd FC FP FG RC PF PC RP RN OP PA := by
  obtain ⟨h1, h2, ⟨a1, a2, a3, a4⟩, h4, h5, h6⟩ := h
  refine ⟨h1, hq, ⟨fun j hj => a1 j (by omega), fun j hj => a2 j (by omega), fun hn1 hk => ?_, fun j hj => a4 j (by omega)⟩, h4, fun hj => absurd (h5 hj).1 hn, h6⟩
  exact absurd hk (a2 (no - 1 - 1) (by omega)).1
/-- nothing but the numbers and the place's copy -/
theorem jI_q (h : jI ns nc np nr no f g q wh pl jd FC FP FG RC PF PC RP RN OP PA) {q2 : Nat → Int32} (hq : ∀ k, 1 ≤ k → k < 6 → q2 k = q k) : jI ns nc np nr no f g q2 wh pl jd FC FP FG RC PF PC RP RN OP PA := by
  obtain ⟨h1, ⟨b1, b2, b3, b4, b5, b6⟩, h3⟩ := h
  exact ⟨h1, ⟨(hq 1 (by decide) (by decide)).trans b1, (hq 2 (by decide) (by decide)).trans b2, (hq 3 (by decide) (by decide)).trans b3, (hq 4 (by decide) (by decide)).trans b4, (hq 5 (by decide) (by decide)).trans b5, b6⟩, h3⟩
theorem jd_open (h : jI ns nc np nr no f g q wh pl jd FC FP FG RC PF PC RP RN OP PA) (hn : 0 < no) : jd = false := by
  cases jd with
  | false => rfl
  | true => have := (h.2.2.2.2.1 rfl).1; omega
/-- ring -/
theorem jI_ring (h : jI ns nc np nr no f g q wh pl jd FC FP FG RC PF PC RP RN OP PA) (hn : 0 < no) (hk : f 0 (OP (no - 1)) = 3) {q2 : Nat → Int32} {f2 g2 : Nat → Nat → Int32} (hq : moN q2 ns (2 * ns + nr + 1) np (nr + 1) no)
    (hf : shD (v7 ns ns ns nc np np no) f f2) (hf3 : f2 3 nc = nI np) (g7 : g2 7 = upd (g 7) nr (nI np)) (g8 : g2 8 = upd (g 8) nr 0) (g6 : g2 6 = upd (g 6) (OP (no - 1)) (nI (RC (OP (no - 1)) + 1))) (hg : ∀ k, k < 14 → ¬ k = 6 → ¬ k = 7 → ¬ k = 8 → g2 k = g k) :
    jI ns (nc + 1) np (nr + 1) no f2 g2 q2 wh pl jd (nup FC ns (nc + 1)) (nup FP (nc + 1) np) (nup FG ns (nr + 1)) (nup RC (OP (no - 1)) (RC (OP (no - 1)) + 1)) PF PC (nup RP nr np) (nup RN nr 0) OP PA := by
  have hjd := jd_open h hn
  obtain ⟨⟨⟨v1, v2, v3, v4, v5, v6⟩, hS, hX, hR, hB, h6, ⟨z1, z2, z3, z4⟩, h8, h9⟩, hq1, ⟨a1, a2, a3, a4⟩, b4, b5, b6⟩ := h
  have hs := (a1 (no - 1) (by omega)).2.2
  have hl := a3 hn (Or.inr (Or.inr hk))
  generalize hsv : OP (no - 1) = s at *
  have e0 : ∀ t, t < ns → f2 0 t = f 0 t := fun t ht => hf 0 t (by decide) ht
  have e1 : ∀ t, t < ns → f2 1 t = f 1 t := fun t ht => hf 1 t (by decide) ht
  have e2 : ∀ t, t < ns → f2 2 t = f 2 t := fun t ht => hf 2 t (by decide) ht
  have e3 : ∀ t, t < nc → f2 3 t = f 3 t := fun t ht => hf 3 t (by decide) ht
  have e4 : ∀ t, t < np → f2 4 t = f 4 t := fun t ht => hf 4 t (by decide) ht
  have e5 : ∀ t, t < np → f2 5 t = f 5 t := fun t ht => hf 5 t (by decide) ht
  have e6 : ∀ t, t < no → f2 6 t = f 6 t := fun t ht => hf 6 t (by decide) ht
  have r3 := (h6 s hs).2.1 hk
  have rg := (h6 s hs).2.2.2
  rw [hl, v2] at r3
  rw [hl, z3] at rg
  have hFRs : ∀ t, t < ns → FG t + RC t ≤ nr := fun t ht => (hS.2 t ht).2.2.2.2.2.2.2.2
  have hFCle : ∀ t, t ≤ ns → FC t ≤ nc := fun t ht => by rw [← v2]; exact up_mono v5 ht (Nat.le_refl _)
  refine ⟨⟨⟨fun k hk9 => by rw [e2 k hk9, nup_n (by omega)]; exact v1 k hk9, nup_s, fun k hk9 => ?_, nup_s, fun k hk9 => ?_, fun k hk9 => ?_⟩, ⟨hS.1, fun t ht => ?_⟩, ⟨hX.1, fun j hj => by rw [hg 9 (by decide) (by decide) (by decide) (by decide), hg 10 (by decide) (by decide) (by decide) (by decide), e4 j hj, e5 j hj]; exact hX.2 j hj⟩, ⟨by have := hq.2.2.2.2.2.2.1; omega, fun r hr => ?_⟩, fun j hj => by rw [e4 j hj, e5 j hj]; exact hB j hj, fun t ht => ?_, ⟨by rw [nup_n (by omega)]; exact z1, by rw [nup_n (by omega)]; exact z2, nup_s, by omega⟩, fun t ht => by rw [e1 t ht]; exact h8 t ht, fun w t hwt ht k6 hw => ?_⟩, hq, ⟨fun j hj => ?_, fun j hj => ?_, fun h1 h2 => ?_, fun j hj k6 s2 h1 h2 => ?_⟩, b4, (fun hj => by rw [hjd] at hj; cases hj), fun j hj => by rw [hg 12 (by decide) (by decide) (by decide) (by decide)]; exact b6 j hj⟩
  · by_cases e : k = nc
    · subst e; rw [hf3, nup_n (by omega), v4]
    · rw [e3 k (by omega), nup_n (by omega)]; exact v3 k (by omega)
  · have := hFCle k (by omega)
    rw [nup_n (show k ≠ ns by omega)]
    by_cases e : k + 1 = ns
    · rw [e, nup_s]; omega
    · rw [nup_n e]; exact v5 k hk9
  · rw [nup_n (show k ≠ nc + 1 by omega)]
    by_cases e : k + 1 = nc + 1
    · rw [e, nup_s, show k = nc by omega, v4]; exact Nat.le_refl _
    · rw [nup_n e]; exact v6 k (by omega)
  · obtain ⟨c0, c1, c2, c3, c4, c5, c6, c7, c8⟩ := hS.2 t ht
    rw [hg 0 (by decide) (by decide) (by decide) (by decide), hg 1 (by decide) (by decide) (by decide) (by decide), hg 2 (by decide) (by decide) (by decide) (by decide), hg 3 (by decide) (by decide) (by decide) (by decide), hg 4 (by decide) (by decide) (by decide) (by decide), hg 5 (by decide) (by decide) (by decide) (by decide), g6, e0 t ht, e1 t ht, nup_n (show t ≠ ns by omega)]
    refine ⟨c0, c1, c2, c3, c4, c5, ?_, c7, ?_⟩
    · by_cases e : t = s
      · rw [e, upd_e, nup_s]
      · rw [upd_n e, nup_n e]; exact c6
    · by_cases e : t = s
      · rw [e, nup_s]; omega
      · rw [nup_n e]; omega
  · rw [g7, g8]
    by_cases e : r = nr
    · rw [e, upd_e, upd_e, nup_s, nup_s]; exact ⟨rfl, rfl, by omega⟩
    · rw [upd_n e, upd_n e, nup_n e, nup_n e]; exact hR.2 r (by omega)
  · obtain ⟨d1, d2, d3, d4⟩ := h6 t ht
    rw [e0 t ht, nup_n (show t ≠ ns by omega), nup_n (show t ≠ ns by omega)]
    by_cases e : t = s
    · subst e
      rw [hl, nup_s, nup_s, nup_s]
      refine ⟨fun h9 => ?_, fun _ => ⟨by omega, fun k hk9 => ?_⟩, fun h9 => absurd (Or.inr (Or.inr hk)) h9, by omega⟩
      · rw [hk] at h9; exact absurd h9 (by decide)
      · by_cases ek : k = RC t
        · rw [ek, show FG t + RC t = nr by omega, nup_s, nup_s, nup_n (show FC t + RC t ≠ nc + 1 by omega), show FC t + RC t = nc by omega, nup_s, v4]; exact ⟨rfl, by omega⟩
        · have := r3.2 k (by omega)
          rw [nup_n (show FG t + k ≠ nr by omega), nup_n (show FG t + k ≠ nr by omega), nup_n (show FC t + k ≠ nc + 1 by omega), nup_n (show FC t + k + 1 ≠ nc + 1 by omega)]; exact this
    · have ht1 : t + 1 ≠ ns := by omega
      have hf1 := hFRs t ht
      have hc1 := hFCle (t + 1) (by omega)
      rw [nup_n e, nup_n ht1, nup_n ht1]
      refine ⟨fun h9 => ?_, fun h9 => ⟨(d2 h9).1, fun k hk9 => ?_⟩, d3, d4⟩
      · have := d1 h9
        rw [nup_n (show FC t ≠ nc + 1 by omega), nup_n (show FC t + 1 ≠ nc + 1 by omega)]; exact this
      · have := (d2 h9).2 k hk9
        have := (d2 h9).1
        rw [nup_n (show FG t + k ≠ nr by omega), nup_n (show FG t + k ≠ nr by omega), nup_n (show FC t + k ≠ nc + 1 by omega), nup_n (show FC t + k + 1 ≠ nc + 1 by omega)]; assumption
  · rw [e0 w (by omega)] at k6
    rw [e1 t ht] at hw
    obtain ⟨d1, d2, d3⟩ := h9 w t hwt ht k6 hw
    rw [e0 t ht]
    exact ⟨fun s2 g1 g2 => by rw [e1 s2 (by omega)]; exact d1 s2 g1 g2, d2, d3⟩
  · rw [e6 j hj, hg 11 (by decide) (by decide) (by decide) (by decide)]; exact a1 j hj
  · rw [e0 _ (a1 j (by omega)).2.2, e1 _ (a1 (j + 1) hj).2.2]; exact a2 j hj
  · rw [hsv]; exact hl
  · rw [e0 _ (a1 j hj).2.2] at k6
    rw [e1 s2 h2]; exact a4 j hj k6 s2 h1 h2
end
section
variable {ns nc np nr no : Nat} {f g : Nat → Nat → Int32} {q : Nat → Int32} {wh : Int32} {pl : Nat → Int32} {jd : Bool} {FC FP FG RC PF PC RP RN OP : Nat → Nat} {PA : Nat → Int32}
theorem mCan_k {KD : Nat → Int32} {s : Nat} (h : ¬ mCan KD PC RC s = false) : k13 (KD s) ∧ (KD s = 3 → 0 < RC s) := by
  refine ⟨?_, fun h3 => mCan_3 h h3⟩
  apply Classical.byContradiction
  intro h9
  apply h
  unfold mCan
  rw [if_neg (fun e => h9 (Or.inl e)), if_neg (fun e => h9 (Or.inr (Or.inl e))), if_neg (fun e => h9 (Or.inr (Or.inr e)))]
/-- point -/
theorem jI_point (h : jI ns nc np nr no f g q wh pl jd FC FP FG RC PF PC RP RN OP PA) (hn : 0 < no) (hc : ¬ mCan (f 0) PC RC (OP (no - 1)) = false) {x y : Int32} (hx : bd x) (hy : bd y) {q2 : Nat → Int32} {f2 g2 : Nat → Nat → Int32} (hq : moN q2 ns (2 * ns + nr) (np + 1) nr no)
    (hf : shD (v7 ns ns ns nc np np no) f f2) (hf4 : f2 4 np = x) (hf5 : f2 5 np = y) (g9 : g2 9 = upd (g 9) np x) (g10 : g2 10 = upd (g 10) np y)
    (hg8 : f 0 (OP (no - 1)) = 3 ∧ g2 8 = upd (g 8) (nr - 1) (g 8 (nr - 1) + 1) ∧ g2 4 = g 4 ∨ ¬ f 0 (OP (no - 1)) = 3 ∧ g2 4 = upd (g 4) (OP (no - 1)) (nI (PC (OP (no - 1)) + 1)) ∧ g2 8 = g 8) (hg : ∀ k, k < 14 → ¬ k = 4 → ¬ k = 8 → ¬ k = 9 → ¬ k = 10 → g2 k = g k) :
    ∃ PC2 RN2, jI ns nc (np + 1) nr no f2 g2 q2 wh pl jd FC (nup FP nc (np + 1)) FG RC PF PC2 RP RN2 OP PA := by
  have hjd := jd_open h hn
  obtain ⟨k1, k2⟩ := mCan_k hc
  obtain ⟨⟨⟨v1, v2, v3, v4, v5, v6⟩, hS, hX, hR, hB, h6, ⟨z1, z2, z3, z4⟩, h8, h9⟩, hq1, ⟨a1, a2, a3, a4⟩, b4, b5, b6⟩ := h
  have hs := (a1 (no - 1) (by omega)).2.2
  have hl := a3 hn k1
  generalize hsv : OP (no - 1) = s at *
  have e0 : ∀ t, t < ns → f2 0 t = f 0 t := fun t ht => hf 0 t (by decide) ht
  have e1 : ∀ t, t < ns → f2 1 t = f 1 t := fun t ht => hf 1 t (by decide) ht
  have e2 : ∀ t, t < ns → f2 2 t = f 2 t := fun t ht => hf 2 t (by decide) ht
  have e3 : ∀ t, t < nc → f2 3 t = f 3 t := fun t ht => hf 3 t (by decide) ht
  have e4 : ∀ t, t < np → f2 4 t = f 4 t := fun t ht => hf 4 t (by decide) ht
  have e5 : ∀ t, t < np → f2 5 t = f 5 t := fun t ht => hf 5 t (by decide) ht
  have e6 : ∀ t, t < no → f2 6 t = f 6 t := fun t ht => hf 6 t (by decide) ht
  have rg := (h6 s hs).2.2.2
  rw [hl, z3] at rg
  have hFRs : ∀ t, t < ns → FG t + RC t ≤ nr := fun t ht => (hS.2 t ht).2.2.2.2.2.2.2.2
  have hFGs : ∀ t, t < s → FG t + RC t ≤ FG s := fun t ht => by
    have : ∀ n, t < n → n ≤ s → FG t + RC t ≤ FG n := by
      intro n
      induction n with
      | zero => intro h1; omega
      | succ n ih =>
        intro h1 h2
        have h3 := (h6 n (by omega)).2.2.2
        by_cases e : t = n
        · subst e; omega
        · have := ih (by omega) (by omega); omega
    exact this s ht (Nat.le_refl _)
  have hFCs : FC s < nc ∧ ∀ t, t ≤ s → FC t ≤ FC s := by
    refine ⟨?_, fun t ht => up_mono v5 ht (by omega)⟩
    rcases k1 with k | k | k
    · have := ((h6 s hs).1 (Or.inl k)).1; rw [hl, v2] at this; omega
    · have := ((h6 s hs).1 (Or.inr k)).1; rw [hl, v2] at this; omega
    · have := ((h6 s hs).2.1 k).1; rw [hl, v2] at this; have := k2 k; omega
  obtain ⟨PC2, RN2, hpc, hrn, hpc2, hrn2, hgn⟩ : ∃ PC2 RN2 : Nat → Nat, (∀ t, t ≠ s → PC2 t = PC t) ∧ (∀ r, r ≠ nr - 1 → RN2 r = RN r) ∧ (f 0 s = 3 → PC2 s = PC s ∧ RN2 (nr - 1) = RN (nr - 1) + 1) ∧ (¬ f 0 s = 3 → PC2 s = PC s + 1 ∧ RN2 (nr - 1) = RN (nr - 1)) ∧ ((∀ t, t < ns → g2 4 t = nI (PC2 t)) ∧ ∀ r, r < nr → g2 8 r = nI (RN2 r)) := by
    rcases hg8 with ⟨c1, c2, c3⟩ | ⟨c1, c2, c3⟩
    · have hnr : 0 < nr := by have := k2 c1; omega
      refine ⟨PC, nup RN (nr - 1) (RN (nr - 1) + 1), fun _ _ => rfl, fun r hr => nup_n hr, fun _ => ⟨rfl, nup_s⟩, fun h9 => absurd c1 h9, fun t ht => by rw [c3]; exact (hS.2 t ht).2.2.2.2.1, fun r hr => ?_⟩
      rw [c2]
      by_cases e : r = nr - 1
      · rw [e, upd_e, nup_s, (hR.2 (nr - 1) (by omega)).2.1]; exact nI_c _ 1
      · rw [upd_n e, nup_n e]; exact (hR.2 r hr).2.1
    · refine ⟨nup PC s (PC s + 1), RN, fun t ht => nup_n ht, fun _ _ => rfl, fun h9 => absurd h9 c1, fun _ => ⟨nup_s, rfl⟩, fun t ht => ?_, fun r hr => by rw [c3]; exact (hR.2 r hr).2.1⟩
      rw [c2]
      by_cases e : t = s
      · rw [e, upd_e, nup_s]
      · rw [upd_n e, nup_n e]; exact (hS.2 t ht).2.2.2.2.1
  have hnp := hq.2.2.2.2.2.2.2.1
  refine ⟨PC2, RN2, ⟨⟨fun k hk9 => by rw [e2 k hk9]; exact v1 k hk9, v2, fun k hk9 => by rw [e3 k hk9, nup_n (by omega)]; exact v3 k hk9, nup_s, v5, fun k hk9 => ?_⟩, ⟨hS.1, fun t ht => ?_⟩, ⟨hnp, fun j hj => ?_⟩, ⟨hR.1, fun r hr => ?_⟩, fun j hj => ?_, fun t ht => ?_, ⟨z1, z2, z3, z4⟩, fun t ht => by rw [e1 t ht]; exact h8 t ht, fun w t hwt ht k6 hw => ?_⟩, hq, ⟨fun j hj => ?_, fun j hj => ?_, fun h1 h2 => ?_, fun j hj k6 s2 h1 h2 => ?_⟩, b4, (fun hj => by rw [hjd] at hj; cases hj), fun j hj => by rw [hg 12 (by decide) (by decide) (by decide) (by decide) (by decide)]; exact b6 j hj⟩
  · rw [nup_n (show k ≠ nc by omega)]
    have := v6 k hk9
    by_cases e : k + 1 = nc
    · rw [e, v4] at this; rw [e, nup_s]; omega
    · rw [nup_n e]; exact this
  · obtain ⟨c0, c1, c2, c3, c4, c5, c6, c7, c8⟩ := hS.2 t ht
    rw [hg 0 (by decide) (by decide) (by decide) (by decide) (by decide), hg 1 (by decide) (by decide) (by decide) (by decide) (by decide), hg 2 (by decide) (by decide) (by decide) (by decide) (by decide), hg 3 (by decide) (by decide) (by decide) (by decide) (by decide), hg 5 (by decide) (by decide) (by decide) (by decide) (by decide), hg 6 (by decide) (by decide) (by decide) (by decide) (by decide), e0 t ht, e1 t ht]
    refine ⟨c0, c1, c2, c3, hgn.1 t ht, c5, c6, ?_, c8⟩
    by_cases e : t = s
    · subst e
      by_cases k3 : f 0 t = 3
      · rw [(hpc2 k3).1]; omega
      · rw [(hrn2 k3).1]; omega
    · rw [hpc t e]; omega
  · rw [g9, g10]
    by_cases e : j = np
    · rw [e, upd_e, upd_e, hf4, hf5]; exact ⟨rfl, rfl⟩
    · rw [upd_n e, upd_n e, e4 j (by omega), e5 j (by omega)]; exact hX.2 j (by omega)
  · obtain ⟨c0, c1, c2⟩ := hR.2 r hr
    rw [hg 7 (by decide) (by decide) (by decide) (by decide) (by decide)]
    refine ⟨c0, hgn.2 r hr, ?_⟩
    by_cases e : r = nr - 1
    · subst e
      by_cases k3 : f 0 s = 3
      · rw [(hpc2 k3).2]; omega
      · rw [(hrn2 k3).2]; omega
    · rw [hrn r e]; omega
  · by_cases e : j = np
    · rw [e, hf4, hf5]; exact ⟨hx, hy⟩
    · rw [e4 j (by omega), e5 j (by omega)]; exact hB j (by omega)
  · obtain ⟨d1, d2, d3, d4⟩ := h6 t ht
    rw [e0 t ht]
    by_cases e : t = s
    · subst e
      refine ⟨fun h10 => ?_, fun k3 => ?_, d3, d4⟩
      · obtain ⟨c1, c2, c3, c4⟩ := d1 h10
        have k3 : ¬ f 0 t = 3 := fun h11 => by rw [h11] at h10; exact absurd h10 (by decide)
        have hc9 : FC t + 1 = nc := by rw [hl, v2] at c1; omega
        rw [nup_n (show FC t ≠ nc by omega), hc9, nup_s, (hrn2 k3).1]
        rw [hc9, v4] at c3
        rw [hl, v2]
        exact ⟨rfl, c2, by omega, c4⟩
      · obtain ⟨c1, c2⟩ := d2 k3
        have hr0 := k2 k3
        have hc9 : FC t + RC t = nc := by rw [hl, v2] at c1; omega
        refine ⟨c1, fun k hk9 => ?_⟩
        obtain ⟨c3, c4⟩ := c2 k hk9
        rw [nup_n (show FC t + k ≠ nc by omega)]
        by_cases ek : k + 1 = RC t
        · rw [show FC t + k + 1 = nc by omega, nup_s]
          rw [show FC t + k + 1 = nc by omega, v4] at c4
          have hr9 : FG t + k = nr - 1 := by omega
          rw [hr9] at c3 c4 ⊢
          rw [(hpc2 k3).2]; exact ⟨c3, by omega⟩
        · rw [nup_n (show FC t + k + 1 ≠ nc by omega), hrn _ (by omega)]; exact ⟨c3, c4⟩
    · have hts : t < s := by omega
      have hg1 := hFGs t hts
      have hc1 := hFCs.2 (t + 1) (by omega)
      have hc2 := hFCs.2 t (by omega)
      refine ⟨fun h10 => ?_, fun k3 => ?_, d3, d4⟩
      · obtain ⟨c1, c2, c3, c4⟩ := d1 h10
        rw [nup_n (show FC t ≠ nc by omega), nup_n (show FC t + 1 ≠ nc by omega), hpc t e]; exact ⟨c1, c2, c3, c4⟩
      · obtain ⟨c1, c2⟩ := d2 k3
        refine ⟨c1, fun k hk9 => ?_⟩
        obtain ⟨c3, c4⟩ := c2 k hk9
        have hRNe : RN2 (FG t + k) = RN (FG t + k) := by
          by_cases ex : FG t + k = nr - 1
          · rw [ex]
            by_cases ks : f 0 s = 3
            · have := k2 ks; omega
            · exact (hrn2 ks).2
          · exact hrn _ ex
        rw [nup_n (show FC t + k ≠ nc by omega), nup_n (show FC t + k + 1 ≠ nc by omega), hRNe]; exact ⟨c3, c4⟩
  · rw [e0 w (by omega)] at k6
    rw [e1 t ht] at hw
    obtain ⟨d1, d2, d3⟩ := h9 w t hwt ht k6 hw
    rw [e0 t ht]
    exact ⟨fun s2 g1 g2 => by rw [e1 s2 (by omega)]; exact d1 s2 g1 g2, d2, d3⟩
  · rw [e6 j hj, hg 11 (by decide) (by decide) (by decide) (by decide) (by decide)]; exact a1 j hj
  · rw [e0 _ (a1 j (by omega)).2.2, e1 _ (a1 (j + 1) hj).2.2]; exact a2 j hj
  · rw [hsv]; exact hl
  · rw [e0 _ (a1 j hj).2.2] at k6
    rw [e1 s2 h2]; exact a4 j hj k6 s2 h1 h2
end
section
variable {ns nc np nr no : Nat} {f g : Nat → Nat → Int32} {q : Nat → Int32} {wh : Int32} {pl : Nat → Int32} {jd : Bool} {FC FP FG RC PF PC RP RN OP : Nat → Nat} {PA : Nat → Int32}
theorem nI_nn {w : Nat} (hw : w < 2 ^ 31) : ¬ nI w < 0 := by rw [i32_lt, nI_toInt hw, show (0 : Int32).toInt = 0 from rfl]; omega
theorem nI_m1 {w : Nat} (hw : w < 2 ^ 31) : (-1 : Int32) ≠ nI w := fun h => by
  have := congrArg Int32.toInt h; rw [nI_toInt hw, show (-1 : Int32).toInt = -1 from rfl] at this; omega
theorem cntP_e {WH : Nat → Int32} {w n : Nat} (hw : w < 2 ^ 31) (h1 : ∀ k, k ≤ w → k < n → WH k ≠ nI w) (h2 : ∀ k, w < k → k < n → WH k = nI w) : ∀ k, k ≤ n → cntP WH (nI w) k = k - (w + 1) := by
  intro k
  induction k with
  | zero => intro _; simp [cntP]
  | succ k ih =>
    intro hk
    have hi := ih (by omega)
    show cntP WH (nI w) k + pcN WH (nI w) k = k + 1 - (w + 1)
    unfold pcN
    by_cases e : k ≤ w
    · rw [if_neg (h1 k e (by omega)), hi]; omega
    · rw [if_pos (h2 k (by omega) (by omega)), if_neg (nI_nn hw), hi]; omega
theorem mTake_t {KD : Nat → Int32} {x : Int32} (h : ¬ mTake KD OP ns no x = false) : (no = 0 ∧ ns = 0) ∨ (0 < no ∧ ¬ k13 (KD (OP (no - 1))) ∧ (KD (OP (no - 1)) = 6 → x = 3)) := by
  by_cases h0 : no = 0
  · left
    refine ⟨h0, ?_⟩
    apply Classical.byContradiction; intro h1
    apply h; unfold mTake; rw [if_pos h0, if_neg h1]
  · right
    refine ⟨by omega, fun hk => ?_, fun h6 => ?_⟩
    · apply h; unfold mTake
      rw [if_neg h0]
      split
      · rfl
      · rcases hk with k | k | k <;> rw [k] <;> rfl
    · apply Classical.byContradiction; intro hx
      apply h; unfold mTake
      rw [if_neg h0, h6]
      split
      · rfl
      · rw [if_neg (by decide), if_neg (by decide), if_neg (fun h9 => hx (by rw [h9]; rfl))]
/-- open -/
theorem jI_open (h : jI ns nc np nr no f g q wh pl jd FC FP FG RC PF PC RP RN OP PA) {x : Int32} (ht : ¬ mTake (f 0) OP ns no x = false) {q2 : Nat → Int32} {f2 g2 : Nat → Nat → Int32} {nc2 : Nat} (hq : moN q2 (ns + 1) (2 * ns + nr + 2) np nr (no + 1))
    (hf : shD (v7 ns ns ns nc np np no) f f2) (hf0 : f2 0 ns = x) (hf1 : f2 1 ns = topI OP no) (hf2 : f2 2 ns = nI nc) (hf6 : f2 6 no = nI ns) (hnc : (x = 1 ∨ x = 2) ∧ nc2 = nc + 1 ∧ f2 3 nc = nI np ∨ ¬ (x = 1 ∨ x = 2) ∧ nc2 = nc)
    (g0 : g2 0 = upd (g 0) ns x) (g1 : g2 1 = upd (g 1) ns (topI OP no)) (g3a : g2 2 = upd (g 2) ns (nI (cntP (f 1) (topI OP no) ns))) (g3 : g2 3 = upd (g 3) ns (nI np)) (g4 : g2 4 = upd (g 4) ns 0) (g5 : g2 5 = upd (g 5) ns (nI nr)) (g6 : g2 6 = upd (g 6) ns 0) (g11 : g2 11 = upd (g 11) no (nI ns)) (hg : ∀ k, 7 ≤ k → k < 14 → ¬ k = 11 → g2 k = g k) :
    jI (ns + 1) nc2 np nr (no + 1) f2 g2 q2 wh pl jd (nup FC (ns + 1) nc2) (nup FP (nc + 1) np) (nup FG (ns + 1) nr) (nup RC ns 0) (nup PF ns np) (nup PC ns 0) RP RN (nup OP no ns) (upd PA ns (nI (cntP (f 1) (topI OP no) ns))) := by
  have htt := mTake_t ht
  have hjd : jd = false := by
    cases jd with
    | false => rfl
    | true => have := h.2.2.2.2.1 rfl; omega
  have hbb := jI_b h
  obtain ⟨⟨⟨v1, v2, v3, v4, v5, v6⟩, hS, hX, hR, hB, h6, ⟨z1, z2, z3, z4⟩, h8, h9⟩, hq1, ⟨a1, a2, a3, a4⟩, b4, b5, b6⟩ := h
  have e0 : ∀ t, t < ns → f2 0 t = f 0 t := fun t ht => hf 0 t (by decide) ht
  have e1 : ∀ t, t < ns → f2 1 t = f 1 t := fun t ht => hf 1 t (by decide) ht
  have e2 : ∀ t, t < ns → f2 2 t = f 2 t := fun t ht => hf 2 t (by decide) ht
  have e3 : ∀ t, t < nc → f2 3 t = f 3 t := fun t ht => hf 3 t (by decide) ht
  have e4 : ∀ t, t < np → f2 4 t = f 4 t := fun t ht => hf 4 t (by decide) ht
  have e5 : ∀ t, t < np → f2 5 t = f 5 t := fun t ht => hf 5 t (by decide) ht
  have e6 : ∀ t, t < no → f2 6 t = f 6 t := fun t ht => hf 6 t (by decide) ht
  have hFRs : ∀ t, t < ns → FG t + RC t ≤ nr := fun t ht => (hS.2 t ht).2.2.2.2.2.2.2.2
  have hFCle : ∀ t, t ≤ ns → FC t ≤ nc := fun t ht => by rw [← v2]; exact up_mono v5 ht (Nat.le_refl _)
  have hnc2 : nc2 = nc + 1 ∨ nc2 = nc := by rcases hnc with ⟨-, h1, -⟩ | ⟨-, h1⟩ <;> omega
  have htop : 0 < no → topI OP no = nI (OP (no - 1)) := fun h1 => topI_p h1
  have htop0 : no = 0 → topI OP no = -1 := fun h1 => if_pos (by omega)
  -- of an open MULTIPOLYGON that is not the last that is open the next one is a polygon, which takes nothing
  have h6t : ∀ j, j < no → f 0 (OP j) = 6 → j = no - 1 := by
    intro j hj k6
    apply Classical.byContradiction; intro hne
    have hj1 : j + 1 < no := by omega
    obtain ⟨c1, c2⟩ := a2 j hj1
    have hs1 := (a1 (j + 1) hj1).2.2
    have hlt : OP j < OP (j + 1) := by
      rcases h8 _ hs1 with hw | ⟨w, hw1, hw2⟩
      · rw [c2] at hw; exact absurd hw.symm (nI_m1 (by have := (a1 j hj).2.2; omega))
      · have := nI_ij (show OP j < 2 ^ 31 by have := (a1 j hj).2.2; omega) (show w < 2 ^ 31 by omega) (c2.symm.trans hw2); omega
    have k3 := (h9 (OP j) (OP (j + 1)) hlt hs1 k6 c2).2.1
    rcases htt with ⟨t1, -⟩ | ⟨t1, t2, -⟩
    · omega
    · by_cases e : j + 1 = no - 1
      · rw [e] at k3; exact t2 (Or.inr (Or.inr k3))
      · exact (a2 (j + 1) (by omega)).1 (Or.inr (Or.inr k3))
  refine ⟨⟨⟨fun k hk => ?_, nup_s, fun k hk => ?_, ?_, fun k hk => ?_, fun k hk => ?_⟩, ⟨hq.2.2.2.2.2.1, fun t ht9 => ?_⟩, ⟨hX.1, fun j hj => by rw [hg 9 (by decide) (by decide) (by decide), hg 10 (by decide) (by decide) (by decide), e4 j hj, e5 j hj]; exact hX.2 j hj⟩, ⟨hR.1, fun r hr => by rw [hg 7 (by decide) (by decide) (by decide), hg 8 (by decide) (by decide) (by decide)]; exact hR.2 r hr⟩, fun j hj => by rw [e4 j hj, e5 j hj]; exact hB j hj, fun t ht9 => ?_, ⟨by rw [nup_n (by omega)]; exact z1, by rw [nup_n (by omega)]; exact z2, nup_s, by omega⟩, fun t ht9 => ?_, fun w t hwt ht9 k6 hw => ?_⟩, (show 2 * (ns + 1) + nr = 2 * ns + nr + 2 by omega) ▸ hq, ⟨fun j hj => ?_, fun j hj => ?_, fun h1 h2 => ?_, fun j hj k6 s2 h1 h2 => ?_⟩, b4, (fun hj => by rw [hjd] at hj; cases hj), fun j hj => by rw [hg 12 (by decide) (by decide) (by decide)]; exact b6 j hj⟩
  · rw [nup_n (show k ≠ ns + 1 by omega)]
    by_cases e : k = ns
    · rw [e, hf2, v2]
    · rw [e2 k (by omega)]; exact v1 k (by omega)
  · rw [nup_n (show k ≠ nc + 1 by omega)]
    by_cases e : k = nc
    · subst e
      rcases hnc with ⟨-, -, h3⟩ | ⟨-, h3⟩
      · rw [h3, v4]
      · omega
    · rw [e3 k (by omega)]; exact v3 k (by omega)
  · rcases hnc2 with e | e
    · rw [e, nup_s]
    · rw [e, nup_n (by omega)]; exact v4
  · rw [nup_n (show k ≠ ns + 1 by omega)]
    have := hFCle k (by omega)
    by_cases e : k + 1 = ns + 1
    · rw [e, nup_s]; omega
    · rw [nup_n e]; exact v5 k (by omega)
  · rw [nup_n (show k ≠ nc + 1 by omega)]
    by_cases e : k + 1 = nc + 1
    · rw [e, nup_s, show k = nc by omega, v4]; exact Nat.le_refl _
    · rw [nup_n e]; exact v6 k (by omega)
  · rw [g0, g1, g3a, g3, g4, g5, g6, nup_n (show t ≠ ns + 1 by omega)]
    by_cases e : t = ns
    · rw [e, upd_e, upd_e, upd_e, upd_e, upd_e, upd_e, upd_e, upd_e, hf0, hf1, nup_s, nup_s, nup_s, z3]
      exact ⟨rfl, rfl, rfl, rfl, rfl, rfl, rfl, Nat.le_refl _, Nat.le_refl _⟩
    · rw [upd_n e, upd_n e, upd_n e, upd_n e, upd_n e, upd_n e, upd_n e, upd_n e, e0 t (by omega), e1 t (by omega), nup_n e, nup_n e, nup_n e]
      exact hS.2 t (by omega)
  · rw [nup_n (show t ≠ ns + 1 by omega), nup_n (show t ≠ ns + 1 by omega)]
    by_cases e : t = ns
    · subst e
      rw [hf0, nup_s, nup_s, nup_s, nup_s, nup_s, v2, z3]
      refine ⟨fun hx => ?_, fun hx => ?_, fun hx => ?_, rfl⟩
      · rcases hnc with ⟨-, c2, -⟩ | ⟨c1, -⟩
        · rw [nup_n (show nc ≠ nc + 1 by omega), nup_s, v4]; exact ⟨c2, rfl, rfl, rfl⟩
        · exact absurd hx c1
      · rcases hnc with ⟨c1, -⟩ | ⟨-, c2⟩
        · rw [hx] at c1; exact absurd c1 (by decide)
        · exact ⟨by omega, fun k hk => by omega⟩
      · rcases hnc with ⟨c1, -⟩ | ⟨-, c2⟩
        · exact absurd (c1.elim Or.inl (fun h => Or.inr (Or.inl h))) hx
        · exact ⟨c2, rfl⟩
    · have htn : t < ns := by omega
      obtain ⟨d1, d2, d3, d4⟩ := h6 t htn
      have hc1 := hFCle (t + 1) (by omega)
      rw [e0 t htn, nup_n (show t + 1 ≠ ns + 1 by omega), nup_n (show t + 1 ≠ ns + 1 by omega), nup_n e, nup_n e, nup_n e]
      refine ⟨fun hx => ?_, fun hx => ⟨(d2 hx).1, fun k hk => ?_⟩, d3, d4⟩
      · have := d1 hx
        rw [nup_n (show FC t ≠ nc + 1 by omega), nup_n (show FC t + 1 ≠ nc + 1 by omega)]; exact this
      · have c1 := (d2 hx).1
        have := (d2 hx).2 k hk
        rw [nup_n (show FC t + k ≠ nc + 1 by omega), nup_n (show FC t + k + 1 ≠ nc + 1 by omega)]; exact this
  · by_cases e : t = ns
    · subst e
      rw [hf1]
      by_cases h0 : no = 0
      · exact Or.inl (htop0 h0)
      · exact Or.inr ⟨OP (no - 1), (a1 (no - 1) (by omega)).2.2, htop (by omega)⟩
    · rw [e1 t (by omega)]; exact h8 t (by omega)
  · rw [e0 w (by omega)] at k6
    by_cases e : t = ns
    · subst e
      rw [hf1] at hw
      have hn0 : 0 < no := by
        apply Nat.pos_of_ne_zero; intro h0
        rw [htop0 h0] at hw; exact nI_m1 (show w < 2 ^ 31 by omega) hw
      rw [htop hn0] at hw
      have hwo : OP (no - 1) = w := nI_ij (by have := (a1 (no - 1) (by omega)).2.2; omega) (by omega) hw
      have hall := a4 (no - 1) (by omega) (by rw [hwo]; exact k6)
      rw [hwo] at hall
      refine ⟨fun s2 c1 c2 => by rw [e1 s2 c2]; exact hall s2 c1 c2, ?_, ?_⟩
      · rw [hf0]
        rcases htt with ⟨t1, -⟩ | ⟨-, -, t3⟩
        · omega
        · exact t3 (by rw [hwo]; exact k6)
      · rw [upd_e, htop hn0, hwo, cntP_e (by omega) (n := t) (fun k c1 c2 h10 => ?_) (fun k c1 c2 => hall k c1 c2) t (Nat.le_refl _)]
        · first | (congr 1; done) | (congr 1; omega)
        · rcases h8 k c2 with hk1 | ⟨w2, hk1, hk2⟩
          · rw [hk1] at h10; exact nI_m1 (by omega) h10
          · have := nI_ij (show w2 < 2 ^ 31 by omega) (by omega) (hk2.symm.trans h10); omega
    · have htn : t < ns := by omega
      rw [e1 t htn] at hw
      obtain ⟨d1, d2, d3⟩ := h9 w t hwt htn k6 hw
      rw [e0 t htn, upd_n e]
      exact ⟨fun s2 c1 c2 => by rw [e1 s2 (by omega)]; exact d1 s2 c1 c2, d2, d3⟩
  · rw [g11]
    by_cases e : j = no
    · rw [e, upd_e, nup_s, hf6]; exact ⟨rfl, rfl, by omega⟩
    · rw [upd_n e, nup_n e, e6 j (by omega)]
      obtain ⟨c1, c2, c3⟩ := a1 j (by omega)
      exact ⟨c1, c2, by omega⟩
  · rw [nup_n (show j ≠ no by omega)]
    have hsj := (a1 j (by omega)).2.2
    rw [e0 _ hsj]
    by_cases e : j + 1 = no
    · rw [e, nup_s, hf1, htop (by omega)]
      have hjn : no - 1 = j := by omega
      rcases htt with ⟨t1, -⟩ | ⟨-, t2, -⟩
      · omega
      · rw [hjn] at t2 ⊢; exact ⟨t2, rfl⟩
    · rw [nup_n e, e1 _ (a1 (j + 1) (by omega)).2.2]; exact a2 j (by omega)
  · show nup OP no ns (no + 1 - 1) + 1 = ns + 1
    rw [show no + 1 - 1 = no by omega, nup_s]
  · by_cases e : j = no
    · rw [e, nup_s] at h1; omega
    · have hj9 : j < no := by omega
      rw [nup_n e] at k6 h1 ⊢
      rw [e0 _ (a1 j hj9).2.2] at k6
      by_cases e9 : s2 = ns
      · subst e9
        rw [hf1, htop (by omega), h6t j hj9 k6]
      · rw [e1 s2 (by omega)]; exact a4 j hj9 k6 s2 h1 (by omega)
end

/-! along a ring: the next step -/
section
variable {X Y : Nat → Int32}
theorem run_s {k d : Nat} (h : ∀ e, e < d → mSeg X Y (k + e) = false) : X (k + d) = X k ∧ Y (k + d) = Y k := by
  induction d with
  | zero => exact ⟨rfl, rfl⟩
  | succ d ih =>
    have h1 := ih (fun e he => h e (by omega))
    have h2 := h d (by omega)
    have h3 : smP X Y (k + d) (k + d + 1) = true := by unfold mSeg at h2; cases h4 : smP X Y (k + d) (k + d + 1) <;> simp [h4] at h2 ⊢
    rw [smP_iff] at h3
    exact ⟨h3.1.symm.trans h1.1, h3.2.symm.trans h1.2⟩
theorem mSeg_sm {a : Nat} : mSeg X Y a = true ↔ smP X Y a (a + 1) = false := by unfold mSeg; cases smP X Y a (a + 1) <;> simp
theorem mSeg_sf {a : Nat} : mSeg X Y a = false ↔ ¬ smP X Y a (a + 1) = false := by unfold mSeg; cases smP X Y a (a + 1) <;> simp
theorem cnt_run {po k d : Nat} (h : ∀ e, e < d → mSeg X Y (po + k + e) = false) : cntS X Y po (k + d) = cntS X Y po k := by
  induction d with
  | zero => rfl
  | succ d ih =>
    have h2 := h d (by omega)
    rw [mSeg_sf] at h2
    rw [← ih (fun e he => h e (by omega))]
    exact cntS_k (show ¬ smP X Y (po + (k + d)) (po + (k + d) + 1) = false by rw [← Nat.add_assoc]; exact h2)
theorem nxF_A {po m a : Nat} (d : Nat) : ∀ fu k, d < fu → po ≤ k → k + d + 1 < po + m → (∀ e, e < d → mSeg X Y (k + e) = false) → mSeg X Y (k + d) = true → nxF X Y po m fu k a = k + d := by
  induction d with
  | zero =>
    intro fu k hf hk hm _ hs
    obtain ⟨f, rfl⟩ : ∃ f, fu = f + 1 := ⟨fu - 1, by omega⟩
    rw [nxF, show nxW po m k = k from if_pos (by omega), if_neg (by rw [show k = k + 0 from rfl, hs]; decide)]
    rfl
  | succ d ih =>
    intro fu k hf hk hm hn hs
    obtain ⟨f, rfl⟩ : ∃ f, fu = f + 1 := ⟨fu - 1, by omega⟩
    rw [nxF, show nxW po m k = k from if_pos (by omega), if_pos (show mSeg X Y k = false from hn 0 (by omega)), ih f (k + 1) (by omega) (by omega) (by omega) (fun e he => by rw [Nat.add_assoc, Nat.add_comm 1 e]; exact hn (e + 1) (by omega)) (by rw [Nat.add_assoc, Nat.add_comm 1 d]; exact hs)]
    omega
theorem nxF_B {po m a : Nat} (d : Nat) : ∀ fu k, d ≤ fu → po ≤ k → k + d + 1 = po + m → (∀ e, e < d → mSeg X Y (k + e) = false) → nxF X Y po m fu k a = nxF X Y po m (fu - d) (k + d) a := by
  induction d with
  | zero => intro fu k _ _ _ _; rfl
  | succ d ih =>
    intro fu k hf hk hm hn
    obtain ⟨f, rfl⟩ : ∃ f, fu = f + 1 := ⟨fu - 1, by omega⟩
    rw [nxF, show nxW po m k = k from if_pos (by omega), if_pos (show mSeg X Y k = false from hn 0 (by omega)), ih f (k + 1) (by omega) (by omega) (by omega) (fun e he => by rw [Nat.add_assoc, Nat.add_comm 1 e]; exact hn (e + 1) (by omega))]
    rw [show f + 1 - (d + 1) = f - d by omega, show k + 1 + d = k + (d + 1) by omega]
theorem nxF_w {po m a fu k : Nat} (hf : 0 < fu) (hm : 2 ≤ m) (hk : k + 1 = po + m) : nxF X Y po m fu k a = nxF X Y po m fu po a := by
  obtain ⟨f, rfl⟩ : ∃ f, fu = f + 1 := ⟨fu - 1, by omega⟩
  rw [nxF, nxF, show nxW po m k = po from if_neg (by omega), show nxW po m po = po from if_pos (by omega)]
/-- the first step from k on that leads elsewhere, or none up to K -/
theorem first_seg {po : Nat} (K k : Nat) (hk : k ≤ K) : (∃ d, k + d < K ∧ (∀ e, e < d → mSeg X Y (po + k + e) = false) ∧ mSeg X Y (po + k + d) = true) ∨ (∀ e, e < K - k → mSeg X Y (po + k + e) = false) := by
  generalize hn : K - k = n
  induction n generalizing k with
  | zero => right; intro e he; omega
  | succ n ih =>
    cases h : mSeg X Y (po + k) with
    | true => left; exact ⟨0, by omega, fun e he => by omega, h⟩
    | false =>
      rcases ih (k + 1) (by omega) (by omega) with ⟨d, h1, h2, h3⟩ | h1
      · left
        refine ⟨d + 1, by omega, fun e he => ?_, by rw [show po + k + (d + 1) = po + (k + 1) + d by omega]; exact h3⟩
        by_cases e0 : e = 0
        · subst e0; exact h
        · rw [show po + k + e = po + (k + 1) + (e - 1) by omega]; exact h2 (e - 1) (by omega)
      · right
        intro e he
        by_cases e0 : e = 0
        · subst e0; exact h
        · rw [show po + k + e = po + (k + 1) + (e - 1) by omega]; exact h1 (e - 1) (by omega)
/-- the step behind: the class's and the model's are one, and begin where the one before ends -/
theorem next_e {po m ka : Nat} (hm : 2 ≤ m) (hk : ka < m - 1) (hs : mSeg X Y (po + ka) = true) (hc : smP X Y po (po + (m - 1)) = true) :
    ∃ kb, kb < m - 1 ∧ mSeg X Y (po + kb) = true ∧ cntS X Y po kb = nxI (cntS X Y po (m - 1)) (cntS X Y po ka) ∧ nxF X Y po m m (po + ka + 1) (po + ka) = po + kb ∧ X (po + ka + 1) = X (po + kb) ∧ Y (po + ka + 1) = Y (po + kb) := by
  have hck : cntS X Y po (ka + 1) = cntS X Y po ka + 1 := cntS_s (mSeg_sm.mp hs)
  rcases first_seg (X := X) (Y := Y) (po := po) (m - 1) (ka + 1) (by omega) with ⟨d, h1, h2, h3⟩ | h1
  · refine ⟨ka + 1 + d, h1, by rw [show po + (ka + 1 + d) = po + (ka + 1) + d by omega]; exact h3, ?_, ?_, ?_⟩
    · have h4 := cnt_run h2
      have h5 : cntS X Y po (ka + 1 + d + 1) = cntS X Y po (ka + 1 + d) + 1 := cntS_s (mSeg_sm.mp (by rw [show po + (ka + 1 + d) = po + (ka + 1) + d by omega]; exact h3))
      have h6 := cntS_m (X := X) (Y := Y) (po := po) (j := ka + 1 + d + 1) (k := m - 1) (by omega)
      unfold nxI; rw [if_neg (by omega)]; omega
    · rw [nxF_A d m (po + ka + 1) (by omega) (by omega) (by omega) (fun e he => h2 e he) h3]; omega
    · have := run_s h2
      rw [show po + (ka + 1 + d) = po + (ka + 1) + d by omega, this.1, this.2]; exact ⟨rfl, rfl⟩
  · have hcl : cntS X Y po (m - 1) = cntS X Y po ka + 1 := by
      have := cnt_run h1
      rw [show ka + 1 + (m - 1 - (ka + 1)) = m - 1 by omega] at this; omega
    have hr := run_s h1
    rw [show po + (ka + 1) + (m - 1 - (ka + 1)) = po + (m - 1) by omega] at hr
    rw [smP_iff] at hc
    rcases first_seg (X := X) (Y := Y) (po := po) (m - 1) 0 (by omega) with ⟨d, g1, g2, g3⟩ | g1
    · refine ⟨d, by omega, by rw [show po + d = po + 0 + d by omega]; exact g3, ?_, ?_, ?_⟩
      · have := cnt_run (k := 0) g2
        rw [Nat.zero_add] at this
        unfold nxI; rw [if_pos hcl.symm, this]; rfl
      · have hd : d ≤ ka := by
          apply Classical.byContradiction; intro h9
          have := g2 ka (by omega)
          rw [show po + 0 + ka = po + ka by omega, hs] at this; cases this
        rw [nxF_B (m - 1 - (ka + 1)) m (po + ka + 1) (by omega) (by omega) (by omega) (fun e he => h1 e he), nxF_w (by omega) hm (by omega), nxF_A d _ po (by omega) (by omega) (by omega) (fun e he => g2 e he) g3]
      · have := run_s g2
        rw [show po + 0 + d = po + d by omega, Nat.add_zero] at this
        rw [this.1, this.2]; exact ⟨hr.1.symm.trans hc.1.symm, hr.2.symm.trans hc.2.symm⟩
    · have := g1 ka (by omega)
      rw [show po + 0 + ka = po + ka by omega, hs] at this; cases this
end

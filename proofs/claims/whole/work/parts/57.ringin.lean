/-! a ring in a ring -/
theorem firstB_c {n : Nat} {f g : Nat → Bool} (h : ∀ k, k < n → f k = g k) : firstB n f = firstB n g := by
  induction n with
  | zero => rfl
  | succ n ih => rw [firstB, firstB, ih (fun k hk => h k (by omega)), h n (by omega)]
theorem firstO_c {α : Type} {n : Nat} {f g : Nat → Option α} (h : ∀ k, k < n → f k = g k) : firstO n f = firstO n g := by
  induction n with
  | zero => rfl
  | succ n ih => rw [firstO, firstO, ih (fun k hk => h k (by omega)), h n (by omega)]
/-- no two segments of two rings lie along each other -/
def nsh (X Y : Nat → Int32) (RP RN : Nat → Nat) (r q : Nat) : Prop := ∀ ka kb, ka < RN r - 1 → kb < RN q - 1 → mSeg X Y (RP r + ka) = true → mSeg X Y (RP q + kb) = true → ¬ ((mMeet X Y 0 0 (RP r + ka) (RP q + kb)).1 = 3 ∧ (mMeet X Y 0 0 (RP q + kb) (RP r + ka)).1 = 3)
section
variable {np : Nat} {X Y : Nat → Int32} {RP RN : Nat → Nat} {r q : Nat} {t u : rgT}
theorem in_e (hB : bdd np X Y) (hr : rgE np X Y RP RN r t) (hq : rgE np X Y RP RN q u) (hcl : smP X Y (RP q) (RP q + (RN q - 1)) = true) (hsg : ∃ k, k < RN r - 1 ∧ mSeg X Y (RP r + k) = true) (hns : nsh X Y RP RN r q) : rIn t u = mIn X Y RP RN r q := by
  have hnr := hr.1
  have hnq := hq.1
  unfold rIn rgIn mIn
  rw [rgE_n hr, en_fB]
  have hf : firstB (RN r - 1) (fun k => mSeg X Y (RP r + k) && (fun j => rgOff u.2.2.2.1 (u.1 4) u.2.2.2.2.2.2.2 (t.2.2.2.2.2.2.2 j)) (cntS X Y (RP r) k)) = firstB (RN r - 1) (fun k9 => mSeg X Y (RP r + k9) && !mOnR X Y RP RN (X (RP r + k9)) (Y (RP r + k9)) q) := by
    apply firstB_c
    intro k hk
    by_cases hs : mSeg X Y (RP r + k) = true
    · have A0 := hB (RP r + k) (by omega)
      show (mSeg X Y (RP r + k) && rgOff u.2.2.2.1 (u.1 4) u.2.2.2.2.2.2.2 (t.2.2.2.2.2.2.2 (cntS X Y (RP r) k))) = _
      rw [show t.2.2.2.2.2.2.2 (cntS X Y (RP r) k) = sgv X Y (RP r) k from rgE_S hr hk hs]
      have := pass_e hB hq A0.1 A0.2
      unfold plP at this
      unfold rgOff
      show (mSeg X Y (RP r + k) && !rgPasses u.2.2.2.1 (u.1 4) u.2.2.2.2.2.2.2 (X (RP r + k)) (Y (RP r + k))) = _
      rw [this]
    · rw [eq_false_of_ne_true hs, Bool.false_and, Bool.false_and]
  rw [hf]
  cases h1 : firstB (RN r - 1) (fun k9 => mSeg X Y (RP r + k9) && !mOnR X Y RP RN (X (RP r + k9)) (Y (RP r + k9)) q) with
  | some k =>
    obtain ⟨hk, h2, -⟩ := firstB_P h1
    rw [Bool.and_eq_true] at h2
    have A0 := hB (RP r + k) (by omega)
    show rgHolds u.2.2.2.1 (u.1 4) u.2.2.2.2.2.2.2 (t.2.2.2.2.2.2.2 (cntS X Y (RP r) k) 1) (t.2.2.2.2.2.2.2 (cntS X Y (RP r) k) 2) 0 0 = mOdd X Y RP RN q (X (RP r + k)) (Y (RP r + k)) 0 0
    rw [show t.2.2.2.2.2.2.2 (cntS X Y (RP r) k) = sgv X Y (RP r) k from rgE_S hr hk h2.1]
    show rgHolds u.2.2.2.1 (u.1 4) u.2.2.2.2.2.2.2 (X (RP r + k)) (Y (RP r + k)) 0 0 = _
    refine hold_e hB hq hcl A0.1 A0.2 (by decide) (by decide) rfl rfl ?_
    intro kb hkb hs hab h0
    have hz : (0 : Int32).toInt = 0 := rfl
    rw [hz] at hab h0
    have hsd : sdX X Y (RP q + kb) (X (RP r + k)) (Y (RP r + k)) = 0 := by
      unfold tnI at h0
      apply Classical.byContradiction; intro h9
      rw [if_neg h9] at h0; exact h9 h0
    have hby : btI (Y (RP r + k)).toInt (Y (RP q + kb)).toInt (Y (RP q + kb + 1)).toInt := by unfold abI at hab; unfold btI; omega
    have hbx := bt_x hsd hby (by unfold abI at hab; omega)
    have hon := (mOn_t hB (by omega) A0.1 A0.2).mpr (show onX X Y (RP q + kb) (X (RP r + k)) (Y (RP r + k)) from ⟨hsd, hbx, hby⟩)
    have : mOnR X Y RP RN (X (RP r + k)) (Y (RP r + k)) q = true := anyB_t (f := fun k9 => mSeg X Y (RP q + k9) && mOn X Y (X (RP r + k)) (Y (RP r + k)) (RP q + k9)) hkb (by show (mSeg X Y (RP q + kb) && mOn X Y (X (RP r + k)) (Y (RP r + k)) (RP q + kb)) = true; rw [hs, hon]; rfl)
    rw [this] at h2; exact absurd h2.2 (by decide)
  | none =>
    show (if cntS X Y (RP r) (RN r - 1) = 0 then false else _) = _
    obtain ⟨k9, hk9, hs9⟩ := hsg
    have hpos := cnt_lt hk9 hs9
    rw [if_neg (by omega)]
    have hex : ∃ k0, firstB (RN r - 1) (fun k9 => mSeg X Y (RP r + k9)) = some k0 := by
      cases h2 : firstB (RN r - 1) (fun k9 => mSeg X Y (RP r + k9)) with
      | some k0 => exact ⟨k0, rfl⟩
      | none => have := firstB_n h2 k9 hk9; rw [hs9] at this; cases this
    obtain ⟨k0, h2⟩ := hex
    obtain ⟨hk0, hs0, hb0⟩ := firstB_P h2
    have hc0 : cntS X Y (RP r) k0 = 0 := by
      have := cnt_run (X := X) (Y := Y) (po := RP r) (k := 0) (d := k0) (fun e he => by rw [Nat.add_zero]; exact hb0 e he)
      rw [Nat.zero_add] at this; exact this
    have hS := rgE_S hr hk0 hs0
    rw [hc0] at hS
    have A0 := hB (RP r + k0) (by omega)
    have A1 := hB (RP r + k0 + 1) (by omega)
    rw [h2]
    show rgHolds u.2.2.2.1 (u.1 4) u.2.2.2.2.2.2.2 (tS t 0 1) (tS t 0 2) ((tS t 0 3).toInt64 - (tS t 0 1).toInt64) ((tS t 0 4).toInt64 - (tS t 0 2).toInt64) = _
    rw [hS]
    show rgHolds u.2.2.2.1 (u.1 4) u.2.2.2.2.2.2.2 (X (RP r + k0)) (Y (RP r + k0)) ((X (RP r + k0 + 1)).toInt64 - (X (RP r + k0)).toInt64) ((Y (RP r + k0 + 1)).toInt64 - (Y (RP r + k0)).toInt64) = mOdd X Y RP RN q (X (RP r + k0)) (Y (RP r + k0)) (X (RP r + k0 + 1) - X (RP r + k0)) (Y (RP r + k0 + 1) - Y (RP r + k0))
    refine hold_e hB hq hcl A0.1 A0.2 (by rw [sub32 A1.1 A0.1]; exact d2e A1.1 A0.1) (by rw [sub32 A1.2 A0.2]; exact d2e A1.2 A0.2) (by rw [sub64 A1.1 A0.1, sub32 A1.1 A0.1]) (by rw [sub64 A1.2 A0.2, sub32 A1.2 A0.2]) ?_
    intro kb hkb hs hab h0
    rw [sub32 A1.2 A0.2] at hab
    rw [sub32 A1.1 A0.1, sub32 A1.2 A0.2] at h0
    have hsd : sdX X Y (RP q + kb) (X (RP r + k0)) (Y (RP r + k0)) = 0 := by
      unfold tnI at h0
      apply Classical.byContradiction; intro h9
      rw [if_neg h9] at h0; exact h9 h0
    rw [tnI, if_pos hsd] at h0
    exact hns k0 kb hk0 hkb hs0 hs (share hB (by omega) (by omega) hs0 hs hsd h0 hab)
end

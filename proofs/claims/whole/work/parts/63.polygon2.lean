/-! a polygon, the same -/
theorem firstO_z {α : Type} {n : Nat} {g : Nat → Option α} {a : Nat} (h : ∀ s, s < a → g s = none) : firstO (a + n) g = firstO n (fun j => g (a + j)) := by
  induction n with
  | zero => exact firstO_none h
  | succ n ih => rw [show a + (n + 1) = (a + n) + 1 by omega, firstO, firstO, ih]
theorem firstO_y {α : Type} {n m : Nat} {g : Nat → Option α} (h : ∀ s, n ≤ s → s < n + m → g s = none) : firstO (n + m) g = firstO n g := by
  induction m with
  | zero => rfl
  | succ m ih =>
    rw [show n + (m + 1) = (n + m) + 1 by omega, firstO, ih (fun s h1 h2 => h s h1 (by omega)), h (n + m) (by omega) (by omega)]
    cases firstO n g <;> rfl
/-- only some shapes count: those from a on, c of them -/
theorem firstO_sh {α : Type} {n a c : Nat} {g : Nat → Option α} (hn : a + c ≤ n) (h : ∀ s, s < n → (s < a ∨ a + c ≤ s) → g s = none) : firstO n g = firstO c (fun j => g (a + j)) := by
  rw [show n = (a + c) + (n - (a + c)) by omega, firstO_y (fun s h1 h2 => h s (by omega) (Or.inr h1)), firstO_z (fun s hs => h s (by omega) (Or.inl hs))]
/-- rings of several parts in a row -/
theorem firstO_fl {α : Type} {cn : Nat} {OF NR : Nat → Nat} {g : Nat → Option α} (h0 : OF 0 = 0) (hO : ∀ j, j < cn → OF (j + 1) = OF j + NR j) : firstO (OF cn) g = firstO cn (fun j => firstO (NR j) (fun b => g (OF j + b))) := by
  induction cn with
  | zero => rw [h0]; rfl
  | succ cn ih =>
    rw [hO cn (by omega), firstO, ← ih (fun j hj => hO j (by omega))]
    generalize NR cn = m
    induction m with
    | zero =>
      show firstO (OF cn) g = _
      cases firstO (OF cn) g <;> rfl
    | succ m ihm =>
      rw [← Nat.add_assoc, firstO, ihm, firstO]
      cases firstO (OF cn) g with
      | none => rfl
      | some x => rfl
section
variable {np : Nat} {X Y : Nat → Int32} {RP RN : Nat → Nat} {F nr : Nat} {shp pp : Int32} {pl pl2 : Nat → Int32} {RT : Nat → rgT}
theorem cl_of (h : firstO nr (rgO X Y RP RN F shp pp pl) = none) : ∀ j, j < nr → clR X Y RP RN (F + j) := fun j hj => (rgO_nn (firstO_no h j hj)).1
theorem poly_e (hB : bdd np X Y) (hE : plE np X Y RP RN F nr pp RT) (hct : ctg RP RN F nr) (h30 : nr < 2 ^ 31) (h7 : pl7 pl pl2) : agr (paM shp pl nr pp RT) (poM X Y RP RN F nr shp pp pl2) := by
  unfold paM poM
  by_cases h0 : nr = 0
  · subst h0
    rw [if_pos rfl]
    unfold frR whM
    rw [if_pos (by omega)]; trivial
  · rw [if_neg h0]
    refine agr_oe (rings_e hE h7) (fun _ hr => ?_)
    have hcl := cl_of hr
    have hsg := rgO_seg hr
    refine agr_oe (pairs_e hB hE hcl h7) (fun _ hp => ?_)
    have hho := holes_e (shp := shp) hB hE hcl hsg (fun i j hi hj hij => pr_nsh hp hi hj hij) h7
    rw [oe_as]
    refine agr_oe hho.1 (fun _ _ => agr_oe hho.2 (fun _ _ => ?_))
    refine whole_e hB hE hcl hsg hct h30 (by omega) ?_ h7
    intro j ka kb hj hk hkb hsa hsb
    exact no_rep hB (hE.1 j hj).1.1 (hcl j hj).2 (by omega) hkb hsa hsb (pr_none hp hj hj (Nat.le_refl _) (by omega) hkb hsa hsb (by unfold fI; rw [if_pos rfl]; omega))
theorem poM_n {sh2 pt2 : Int32} {plx : Nat → Int32} (h : poM X Y RP RN F nr shp pp pl = none) : poM X Y RP RN F nr sh2 pt2 plx = none := by
  unfold poM at *
  by_cases h0 : nr = 0
  · rw [if_pos h0]
  · rw [if_neg h0] at h ⊢
    obtain ⟨h1, h2⟩ := oe_n h
    obtain ⟨h2, h3⟩ := oe_n h2
    obtain ⟨h3, h4⟩ := oe_n h3
    obtain ⟨h5, h6⟩ := oe_n h3
    refine oe_nn (firstO_none (fun k hk => ?_)) (oe_nn (firstO_none (fun i hi => firstO_none (fun ka hka => ?_))) (oe_nn (oe_nn (firstO_none (fun k hk => ?_)) (firstO_none (fun i hi => firstO_none (fun j hj => ?_)))) ?_))
    · have := firstO_no h1 k hk
      unfold rgO at *
      split at this
      · cases this
      · rename_i g1
        rw [if_neg g1]
        split at this
        · rename_i g2; rw [if_pos g2]
        · cases this
    · have := firstO_no (firstO_no h2 i hi) ka hka
      unfold prA at *
      split at this
      · rename_i g1; rw [if_pos g1]
      · rename_i g1; rw [if_neg g1]
        refine firstO_none (fun j hj => ?_)
        have := firstO_no this j hj
        unfold prJ at *
        split at this
        · rename_i g2; rw [if_pos g2]
        · rename_i g2; rw [if_neg g2]
          refine firstO_none (fun kb hkb => ?_)
          have := firstO_no this kb hkb
          unfold prB at *
          split at this
          · rename_i g3; rw [if_pos g3]
          · rename_i g3; rw [if_neg g3]
            split at this
            · rename_i g4; rw [if_pos g4]
            · rename_i g4; rw [if_neg g4]
              split at this
              · rename_i g5; rw [if_pos g5]
              · cases this
    · have := firstO_no h5 k hk
      unfold hoM at *
      split at this
      · rename_i g1; rw [if_pos g1]
      · rename_i g1; rw [if_neg g1]
        split at this
        · cases this
        · rename_i g2; rw [if_neg g2]
    · have := firstO_no (firstO_no h6 i hi) j hj
      unfold phM at *
      split at this
      · rename_i g1; rw [if_pos g1]
      · rename_i g1; rw [if_neg g1]
        split at this
        · rename_i g2; rw [if_pos g2]
        · rename_i g2; rw [if_neg g2]
          split at this
          · rename_i g3; rw [if_pos g3]
          · cases this
    · unfold spO at *
      split at h4
      · cases h4
      · rename_i g1; rw [if_neg g1]
end
theorem mPr_d {X Y : Nat → Int32} {RP RN : Nat → Nat} {r a q b : Nat} (h : r ≠ q) : mPr X Y RP RN r a q b ≠ 5 := by
  unfold mPr mPair
  rw [if_neg h]
  repeat' split
  all_goals decide
theorem tell_d {X Y : Nat → Int32} {RP RN : Nat → Nat} {r a q b : Nat} {u v : Int32} (h : r ≠ q) (huv : u ≠ v) (hp : ¬ mPr X Y RP RN r a q b ≤ 0) : tellC (mPr X Y RP RN r a q b) u v = mPr X Y RP RN r a q b + 6 := by
  unfold tellC; rw [if_neg huv]
  rcases mPr_v (X := X) (Y := Y) (RP := RP) (RN := RN) (r := r) (a := a) (q := q) (b := b) with h1 | h1 | h1 | h1
  · rw [h1] at hp; exact absurd (by decide) hp
  · rw [h1]; rfl
  · rw [h1]; rfl
  · exact absurd h1 (mPr_d h)

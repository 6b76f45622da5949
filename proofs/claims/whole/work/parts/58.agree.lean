/-! faults that agree -/
def agr (o o2 : fT) : Prop := match o, o2 with
  | none, none => True
  | some p, some p2 => p.1 = p2.1 ∧ ∀ j, j < 7 → p.2 j = p2.2 j
  | _, _ => False
def pl7 (pl pl2 : Nat → Int32) : Prop := ∀ j, j < 7 → pl j = pl2 j
theorem agr_n {o o2 : fT} (h : agr o o2) : o = none ↔ o2 = none := by cases o <;> cases o2 <;> simp_all [agr]
theorem agr_nn {o o2 : fT} (h1 : o = none) (h2 : o2 = none) : agr o o2 := by rw [h1, h2]; trivial
theorem upd_7 {pl pl2 : Nat → Int32} {k : Nat} {v : Int32} (h : pl7 pl pl2) : pl7 (upd pl k v) (upd pl2 k v) := by
  intro j hj; simp only [upd]; by_cases e : j = k
  · rw [if_pos e, if_pos e]
  · rw [if_neg e, if_neg e]; exact h j hj
theorem p1_7 {pl pl2 : Nat → Int32} {a b c : Int32} (h : pl7 pl pl2) : pl7 (p1 pl a b c) (p1 pl2 a b c) := upd_7 (upd_7 (upd_7 h))
theorem p2_7 {pl pl2 : Nat → Int32} {a b c : Int32} (h : pl7 pl pl2) : pl7 (p2 pl a b c) (p2 pl2 a b c) := upd_7 (upd_7 (upd_7 h))
theorem agr_s {v v2 : Int32} {pl pl2 : Nat → Int32} (hv : v = v2) (h : pl7 pl pl2) : agr (some (v, pl)) (some (v2, pl2)) := ⟨hv, h⟩
theorem agr_oe {a a2 b b2 : fT} (h : agr a a2) (h2 : a = none → a2 = none → agr b b2) : agr (oe a b) (oe a2 b2) := by
  cases a <;> cases a2
  · exact h2 rfl rfl
  · exact h.elim
  · exact h.elim
  · exact h
theorem agr_fO {n : Nat} {f g : Nat → fT} (h : ∀ k, k < n → (∀ j, j < k → f j = none) → (∀ j, j < k → g j = none) → agr (f k) (g k)) : agr (firstO n f) (firstO n g) := by
  induction n with
  | zero => trivial
  | succ n ih =>
    have h1 := ih (fun k hk => h k (by omega))
    cases hf : firstO n f with
    | none =>
      have hg := (agr_n h1).mp hf
      rw [firstO_s hf, firstO_s hg]
      exact h n (by omega) (firstO_no hf) (firstO_no hg)
    | some x =>
      cases hg : firstO n g with
      | none => rw [(agr_n h1).mpr hg] at hf; cases hf
      | some y =>
        rw [hf, hg] at h1
        rw [firstO, firstO, hf, hg]; exact h1
theorem agr_fBm {n : Nat} {b : Nat → Bool} {F : Nat → Int32 × (Nat → Int32)} {g : Nat → fT} (h : ∀ k, k < n → (b k = false ∧ g k = none) ∨ (b k = true ∧ agr (some (F k)) (g k))) : agr ((firstB n b).map F) (firstO n g) := by
  induction n with
  | zero => trivial
  | succ n ih =>
    have h1 := ih (fun k hk => h k (by omega))
    cases hf : firstB n b with
    | none =>
      rw [hf] at h1
      have hg := (agr_n h1).mp rfl
      rw [firstB, hf, firstO_s hg]
      rcases h n (by omega) with ⟨h2, h3⟩ | ⟨h2, h3⟩
      · show agr (Option.map F (if b n = true then some n else none)) (g n); rw [h2, h3]; trivial
      · show agr (Option.map F (if b n = true then some n else none)) (g n); rw [h2]; exact h3
    | some i =>
      rw [hf] at h1
      rw [firstB, hf]
      cases hg : firstO n g with
      | none => rw [hg] at h1; exact h1.elim
      | some y => rw [hg] at h1; rw [firstO, hg]; exact h1
theorem oe_as {a b c : fT} : oe (oe a b) c = oe a (oe b c) := by cases a <;> rfl
/-! how many points are different -/
section
variable {X Y : Nat → Int32} {p : Nat}
theorem sm_r {a : Nat} : smP X Y a a = true := smP_iff.mpr ⟨rfl, rfl⟩
theorem sm_c {a b : Nat} (h : smP X Y a b = true) : smP X Y b a = true := by rw [smP_iff] at *; exact ⟨h.1.symm, h.2.symm⟩
theorem sm_t {a b c : Nat} (h : smP X Y a b = true) (h2 : smP X Y b c = true) : smP X Y a c = true := by rw [smP_iff] at *; exact ⟨h.1.trans h2.1, h.2.trans h2.2⟩
theorem frN_1 {k : Nat} (h : ∀ i, i < k → smP X Y (p + i) (p + k) = false) : frN X Y p k = 1 := if_pos (anyB_f h)
theorem frN_0 {k i : Nat} (hi : i < k) (h : smP X Y (p + i) (p + k) = true) : frN X Y p k = 0 := if_neg (by rw [anyB_t (f := fun i9 => smP X Y (p + i9) (p + k)) hi h]; decide)
theorem cnt_1 {n : Nat} (hn : 0 < n) : 1 ≤ cntF X Y p n := by
  have h1 : cntF X Y p 1 = 1 := by show 0 + frN X Y p 0 = 1; rw [frN_1 (fun i hi => by omega)]
  have := cntF_m (X := X) (Y := Y) (p := p) (j := 1) (k := n) hn; omega
theorem cnt_b {n : Nat} (h : ∀ j, j < n → smP X Y (p + j) (p + 0) = true) : cntF X Y p n ≤ 1 := by
  have hk : ∀ k, k ≤ n → cntF X Y p k ≤ 1 := by
    intro k
    induction k with
    | zero => intro _; exact Nat.zero_le _
    | succ k ih =>
      intro hk
      have h1 := ih (by omega)
      show cntF X Y p k + frN X Y p k ≤ 1
      by_cases e : k = 0
      · subst e; have := frN_le X Y p 0; show 0 + frN X Y p 0 ≤ 1; omega
      · rw [frN_0 (show 0 < k by omega) (sm_c (h k (by omega)))]; omega
  exact hk n (Nat.le_refl _)
theorem cnt_c {n q : Nat} (h : ∀ j, j < n → smP X Y (p + j) (p + 0) = true ∨ smP X Y (p + j) (p + q) = true) : cntF X Y p n ≤ 2 := by
  have hk : ∀ k, k ≤ n → cntF X Y p k ≤ 1 ∨ (cntF X Y p k ≤ 2 ∧ ∃ i, i < k ∧ smP X Y (p + i) (p + q) = true) := by
    intro k
    induction k with
    | zero => intro _; exact Or.inl (Nat.zero_le _)
    | succ k ih =>
      intro hk
      have h0 := frN_le X Y p k
      have hc : cntF X Y p (k + 1) = cntF X Y p k + frN X Y p k := rfl
      rcases h k (by omega) with h1 | h1
      · by_cases e : k = 0
        · subst e; left; rw [hc]; show 0 + frN X Y p 0 ≤ 1; omega
        · have h2 := frN_0 (show 0 < k by omega) (sm_c h1)
          rcases ih (by omega) with h3 | ⟨h3, i, h4, h5⟩
          · left; omega
          · right; exact ⟨by omega, i, by omega, h5⟩
      · rcases ih (by omega) with h3 | ⟨h3, i, h4, h5⟩
        · right; exact ⟨by omega, k, by omega, h1⟩
        · right
          have h2 := frN_0 h4 (sm_t h5 (sm_c h1))
          exact ⟨by omega, i, by omega, h5⟩
  rcases hk n (Nat.le_refl _) with h1 | h1
  · omega
  · exact h1.1
/-- the first point that is not the first one -/
theorem cnt_d {n k : Nat} (hk : k < n) (h : smP X Y (p + k) (p + 0) = false) : ∃ q, q < n ∧ smP X Y (p + q) (p + 0) = false ∧ (∀ i, i < q → smP X Y (p + i) (p + 0) = true) ∧ 2 ≤ cntF X Y p (q + 1) := by
  cases h1 : firstB n (fun q => !smP X Y (p + q) (p + 0)) with
  | none => have h9 : (!smP X Y (p + k) (p + 0)) = false := firstB_n h1 k hk; rw [h] at h9; cases h9
  | some q =>
    obtain ⟨h2, h3, h4⟩ := firstB_P h1
    have h3 : smP X Y (p + q) (p + 0) = false := by simpa using h3
    have h4 : ∀ i, i < q → smP X Y (p + i) (p + 0) = true := fun i hi => by simpa using h4 i hi
    refine ⟨q, h2, h3, h4, ?_⟩
    have hq : 0 < q := by
      apply Nat.pos_of_ne_zero; intro h9; subst h9; rw [sm_r] at h3; cases h3
    have h5 : frN X Y p q = 1 := frN_1 (fun i hi => by
      cases h6 : smP X Y (p + i) (p + q) with
      | false => rfl
      | true => rw [sm_t (sm_c h6) (h4 i hi)] at h3; cases h3)
    have h6 := cnt_1 (X := X) (Y := Y) (p := p) hq
    show 2 ≤ cntF X Y p q + frN X Y p q; omega
theorem cnt_e {n k j : Nat} (hk : k < n) (hj : j < n) (h1 : smP X Y (p + k) (p + 0) = false) (h2 : smP X Y (p + j) (p + 0) = false) (h3 : smP X Y (p + j) (p + k) = false) : 3 ≤ cntF X Y p n := by
  obtain ⟨q, g1, g2, g3, g4⟩ := cnt_d hk h1
  have hex : ∃ i, i < n ∧ smP X Y (p + i) (p + 0) = false ∧ smP X Y (p + i) (p + q) = false := by
    cases h4 : smP X Y (p + k) (p + q) with
    | false => exact ⟨k, hk, h1, h4⟩
    | true =>
      cases h5 : smP X Y (p + j) (p + q) with
      | false => exact ⟨j, hj, h2, h5⟩
      | true => rw [sm_t h5 (sm_c h4)] at h3; cases h3
  obtain ⟨i0, hi0, e1, e2⟩ := hex
  cases h4 : firstB n (fun i => !smP X Y (p + i) (p + 0) && !smP X Y (p + i) (p + q)) with
  | none => have h9 : (!smP X Y (p + i0) (p + 0) && !smP X Y (p + i0) (p + q)) = false := firstB_n h4 i0 hi0; rw [e1, e2] at h9; cases h9
  | some i =>
    obtain ⟨f1, f2, f3⟩ := firstB_P h4
    have f2 : smP X Y (p + i) (p + 0) = false ∧ smP X Y (p + i) (p + q) = false := by simpa using f2
    have hqi : q < i := by
      rcases Nat.lt_trichotomy q i with h | h | h
      · exact h
      · subst h; rw [sm_r] at f2; exact absurd f2.2 (by decide)
      · rw [g3 i h] at f2; exact absurd f2.1 (by decide)
    have f4 : frN X Y p i = 1 := frN_1 (fun m hm => by
      cases h6 : smP X Y (p + m) (p + i) with
      | false => rfl
      | true =>
        have f3 : (!smP X Y (p + m) (p + 0) && !smP X Y (p + m) (p + q)) = false := f3 m hm
        cases h7 : smP X Y (p + m) (p + 0) with
        | true => rw [sm_t (sm_c h6) h7] at f2; exact absurd f2.1 (by decide)
        | false =>
          cases h8 : smP X Y (p + m) (p + q) with
          | true => rw [sm_t (sm_c h6) h8] at f2; exact absurd f2.2 (by decide)
          | false => rw [h7, h8] at f3; cases f3)
    have f5 := cntF_m (X := X) (Y := Y) (p := p) (j := q + 1) (k := i) hqi
    have f6 := cntF_m (X := X) (Y := Y) (p := p) (j := i + 1) (k := n) f1
    have f7 : cntF X Y p (i + 1) = cntF X Y p i + frN X Y p i := rfl
    omega
theorem df_3 {po pe : Nat} {v : Int32} (h : dfR X Y po pe v) (hp : po ≤ pe) : (3 ≤ v ↔ 3 ≤ cntF X Y po (pe - po)) ∧ (v = 1 ↔ (po < pe ∧ cntF X Y po (pe - po) < 2)) := by
  rcases h with ⟨h1, h2⟩ | ⟨h1, h2, h3⟩ | ⟨h1, h2, k, h3, h4, h5, h6⟩ | ⟨h1, k, j, h2, h3, h4, h5, h6, h7⟩
  · rw [h1, show pe - po = 0 by omega]; exact ⟨⟨fun h => absurd h (by decide), fun h => by simp [cntF] at h⟩, ⟨fun h => absurd h (by decide), fun h => by omega⟩⟩
  · have := cnt_b (X := X) (Y := Y) (p := po) (n := pe - po) (fun j hj => by
      by_cases e : j = 0
      · subst e; exact sm_r
      · exact h3 (po + j) (by omega) (by omega))
    rw [h1]; exact ⟨⟨fun h => absurd h (by decide), fun h => by omega⟩, ⟨fun _ => ⟨h2, by omega⟩, fun _ => rfl⟩⟩
  · have h7 := cnt_c (X := X) (Y := Y) (p := po) (n := pe - po) (q := k - po) (fun j hj => by
      by_cases e : j = 0
      · subst e; exact Or.inl sm_r
      · rw [show po + (k - po) = k by omega]; exact h6 (po + j) (by omega) (by omega))
    obtain ⟨q, g1, -, -, g4⟩ := cnt_d (X := X) (Y := Y) (p := po) (n := pe - po) (k := k - po) (by omega) (by rw [show po + (k - po) = k by omega]; exact h5)
    have g5 := cntF_m (X := X) (Y := Y) (p := po) (j := q + 1) (k := pe - po) g1
    rw [h1]; exact ⟨⟨fun h => absurd h (by decide), fun h => by omega⟩, ⟨fun h => absurd h (by decide), fun h => by omega⟩⟩
  · have := cnt_e (X := X) (Y := Y) (p := po) (n := pe - po) (k := k - po) (j := j - po) (by omega) (by omega) (by rw [show po + (k - po) = k by omega]; exact h5) (by rw [show po + (j - po) = j by omega]; exact h6) (by rw [show po + (j - po) = j by omega, show po + (k - po) = k by omega]; exact h7)
    rw [h1]; exact ⟨⟨fun _ => this, fun _ => by decide⟩, ⟨fun h => absurd h (by decide), fun h => by omega⟩⟩
end

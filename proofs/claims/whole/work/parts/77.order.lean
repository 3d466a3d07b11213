/-! THE ORDER OF INSPECTION: a strict order, its places. -/
abbrev bfr (W : Nat → Int) (q : Nat → Rat) (a b : Nat) : Prop := W b < W a ∨ (W a = W b ∧ (q b < q a ∨ (q a = q b ∧ a < b)))
def plc (W : Nat → Int) (q : Nat → Rat) (b : Nat) : Nat → Nat
  | 0 => 0
  | k + 1 => plc W q b k + (if ¬ k = b ∧ bfr W q k b then 1 else 0)
section OR
variable {W : Nat → Int} {q : Nat → Rat} {a b c n k : Nat}
theorem bfr_irr : ¬ bfr W q a a := by
  rintro (z | ⟨_, z | ⟨_, z⟩⟩)
  · omega
  · exact absurd z (Rat.not_lt.mpr Rat.le_refl)
  · omega
theorem rlt_trans {x y z : Rat} (h1 : x < y) (h2 : y < z) : x < z := by
  refine Rat.not_le.mp (fun c => ?_)
  have t1 : z ≤ y := Rat.le_trans c (Rat.le_of_lt h1)
  exact absurd h2 (Rat.not_lt.mpr t1)
theorem bfr_trans (h1 : bfr W q a b) (h2 : bfr W q b c) : bfr W q a c := by
  rcases h1 with h1 | ⟨e1, h1⟩
  · rcases h2 with h2 | ⟨e2, h2⟩
    · exact Or.inl (by omega)
    · exact Or.inl (by omega)
  · rcases h2 with h2 | ⟨e2, h2⟩
    · exact Or.inl (by omega)
    · refine Or.inr ⟨by omega, ?_⟩
      rcases h1 with h1 | ⟨r1, h1⟩
      · rcases h2 with h2 | ⟨r2, h2⟩
        · exact Or.inl (rlt_trans h2 h1)
        · exact Or.inl (by rw [← r2]; exact h1)
      · rcases h2 with h2 | ⟨r2, h2⟩
        · exact Or.inl (by rw [r1]; exact h2)
        · exact Or.inr ⟨r1.trans r2, by omega⟩
theorem bfr_total (h : a ≠ b) : bfr W q a b ∨ bfr W q b a := by
  rcases Int.lt_trichotomy (W a) (W b) with z | z | z
  · exact Or.inr (Or.inl z)
  · by_cases r1 : q b < q a
    · exact Or.inl (Or.inr ⟨z, Or.inl r1⟩)
    · by_cases r2 : q a < q b
      · exact Or.inr (Or.inr ⟨z.symm, Or.inl r2⟩)
      · have e : q a = q b := Rat.le_antisymm (Rat.not_lt.mp r1) (Rat.not_lt.mp r2)
        rcases Nat.lt_or_gt_of_ne h with y | y
        · exact Or.inl (Or.inr ⟨z, Or.inr ⟨e, y⟩⟩)
        · exact Or.inr (Or.inr ⟨z.symm, Or.inr ⟨e.symm, y⟩⟩)
  · exact Or.inl (Or.inl z)
theorem plc_mono (h : bfr W q a b) : ∀ n, plc W q a n ≤ plc W q b n ∧ (a < n → plc W q a n < plc W q b n)
  | 0 => ⟨Nat.le_refl _, fun c => by omega⟩
  | n + 1 => by
    have ih := plc_mono h n
    rw [plc, plc]
    by_cases c1 : ¬ n = a ∧ bfr W q n a
    · have c2 : ¬ n = b ∧ bfr W q n b := ⟨fun e => by subst e; exact bfr_irr (bfr_trans h c1.2), bfr_trans c1.2 h⟩
      rw [if_pos c1, if_pos c2]
      exact ⟨by omega, fun hn => by have := ih.2 (by omega); omega⟩
    · rw [if_neg c1]
      refine ⟨by omega, fun hn => ?_⟩
      by_cases e : n = a
      · subst e
        have c2 : ¬ n = b ∧ bfr W q n b := ⟨fun e => by subst e; exact bfr_irr h, h⟩
        rw [if_pos c2]
        omega
      · have := ih.2 (by omega)
        omega
theorem plc_lt : ∀ n, plc W q b n ≤ n ∧ (b < n → plc W q b n < n)
  | 0 => ⟨Nat.le_refl _, fun c => by omega⟩
  | n + 1 => by
    have ih := plc_lt n
    rw [plc]
    by_cases e : n = b
    · rw [if_neg (fun c => c.1 e)]
      exact ⟨by omega, fun _ => by omega⟩
    · split
      · exact ⟨by omega, fun hn => by have := ih.2 (by omega); omega⟩
      · exact ⟨by omega, fun hn => by have := ih.2 (by omega); omega⟩
theorem plc_inj (ha : a < n) (hb : b < n) (h : plc W q a n = plc W q b n) : a = b := by
  by_cases e : a = b
  · exact e
  · rcases bfr_total (W := W) (q := q) e with z | z
    · have := (plc_mono z n).2 ha
      omega
    · have := (plc_mono z n).2 hb
      omega
theorem pigeon : ∀ (n : Nat) (f : Nat → Nat), (∀ i, i < n + 1 → f i < n) → ∃ i j, i < j ∧ j < n + 1 ∧ f i = f j
  | 0, f, h => absurd (h 0 (by omega)) (by omega)
  | n + 1, f, h => by
    by_cases c : ∃ i, i < n + 1 ∧ f i = f (n + 1)
    · obtain ⟨i, h1, h2⟩ := c
      exact ⟨i, n + 1, by omega, by omega, h2⟩
    · have c' : ∀ i, i < n + 1 → ¬ f i = f (n + 1) := fun i hi e => c ⟨i, hi, e⟩
      have hv := h (n + 1) (by omega)
      obtain ⟨i, j, h1, h2, h3⟩ := pigeon n (fun i => if f (n + 1) < f i then f i - 1 else f i) (fun i hi => by
        have t1 := h i (by omega)
        have t2 := c' i hi
        show (if f (n + 1) < f i then f i - 1 else f i) < n
        split <;> omega)
      refine ⟨i, j, h1, by omega, ?_⟩
      have t1 := c' i (by omega)
      have t2 := c' j (by omega)
      split at h3 <;> split at h3 <;> omega
theorem plc_sur (hk : k < n) : ∃ i, i < n ∧ plc W q i n = k := by
  by_cases c : ∃ i, i < n ∧ plc W q i n = k
  · exact c
  · have c' : ∀ i, i < n → ¬ plc W q i n = k := fun i hi e => c ⟨i, hi, e⟩
    obtain ⟨m, rfl⟩ : ∃ m, n = m + 1 := ⟨n - 1, by omega⟩
    obtain ⟨i, j, h1, h2, h3⟩ := pigeon m (fun i => if k < plc W q i (m + 1) then plc W q i (m + 1) - 1 else plc W q i (m + 1)) (fun i hi => by
      have t1 := (plc_lt (W := W) (q := q) (b := i) (m + 1)).2 hi
      have t2 := c' i hi
      show (if k < plc W q i (m + 1) then plc W q i (m + 1) - 1 else plc W q i (m + 1)) < m
      split <;> omega)
    have t1 := c' i (by omega)
    have t2 := c' j (by omega)
    have e : plc W q i (m + 1) = plc W q j (m + 1) := by
      split at h3 <;> split at h3 <;> omega
    have := plc_inj (by omega) (by omega) e
    omega
end OR

/-! THE PRIMES' SIEVE. -/
section RIN
variable {B : Nat} {X : pm_X} {h t : pm_H} {Q : Option Value → pm_H → Prop} {a k : Nat}
theorem prl_len : ∀ n p, (prl p).length ≤ (prl (p + n)).length
  | 0, p => Nat.le_refl _
  | n + 1, p => by
    refine Nat.le_trans (prl_len n p) ?_
    show _ ≤ (prl (p + n + 1)).length
    rw [prl]
    split
    · rw [List.length_append]; omega
    · exact Nat.le_refl _
theorem prl_168 {p : Nat} (h : p ≤ 1000) : (prl p).length ≤ 168 := by
  have := prl_len (1000 - p) p
  rw [show p + (1000 - p) = 1000 by omega, PL_eq, PL_len] at this
  exact this
theorem prl_ge {p k : Nat} (h : k < (prl p).length) : (prl p).getD k 0 ∈ prl p := by
  rw [List.getD_eq_getElem?_getD, List.getElem?_eq_getElem h]
  exact List.getElem_mem h
def isP (p k : Nat) : Prop := ∀ j, j < k → ¬ p % (prl p).getD j 0 = 0
theorem isP_all {p : Nat} : isP p (prl p).length ↔ (prl p).all (fun q => !(Nat.beq (p % q) 0)) = true := by
  rw [List.all_eq_true]
  constructor
  · intro z q hq
    obtain ⟨j, j1, j2⟩ := List.getElem_of_mem hq
    have := z j j1
    rw [List.getD_eq_getElem?_getD, List.getElem?_eq_getElem j1, Option.getD_some, j2] at this
    cases hb : Nat.beq (p % q) 0 with
    | false => rfl
    | true => exact absurd (Nat.eq_of_beq_eq_true hb) this
  · intro z j hj e
    have := z _ (prl_ge hj)
    rw [e] at this
    exact absurd this (by decide)
theorem prl_s {p : Nat} (h2 : 2 ≤ p) (h : isP p (prl p).length) : prl (p + 1) = prl p ++ [p] := by
  rw [prl]
  exact if_pos (by rw [Bool.and_eq_true]; exact ⟨Nat.ble_eq_true_of_le h2, isP_all.mp h⟩)
theorem prl_n {p : Nat} (h : ¬ isP p (prl p).length) : prl (p + 1) = prl p := by
  rw [prl]
  exact if_neg (by rw [Bool.and_eq_true]; exact fun z => h (isP_all.mpr z.2))
end RIN

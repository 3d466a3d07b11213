/-! FRACTIONS AS RATIONAL NUMBERS: core Lean's Rat is in least terms, as the program's are. -/
def sg (n : Int) : Int32 := if n < 0 then -1 else if n = 0 then 0 else 1
def FracQ (B : Nat) (h : pm_H) (p : Nat) (q : Rat) : Prop := FracV B h p (sg q.num) q.num.natAbs q.den
/-- not too great for the scales -/
def sml (q : Rat) : Prop := q.num.natAbs < 1000000000 ^ 6 ∧ q.den < 1000000000 ^ 6
theorem rat_of {U L R : Nat} {D : Int} (hR : 0 < R) (hL : 0 < L) (hg : Nat.gcd U L = 1) (he : U * R = D.natAbs * L) : (mkRat D R).num.natAbs = U ∧ (mkRat D R).den = L ∧ sg (mkRat D R).num = sg D := by
  have hs : ∃ n : Int, n.natAbs = U ∧ n * R = D * L ∧ sg n = sg D := by
    rcases (show D < 0 ∨ 0 ≤ D by omega) with z | z
    · refine ⟨-(U : Int), by simp, ?_, ?_⟩
      · have h1 : (D.natAbs : Int) = -D := by omega
        have h2 : ((U * R : Nat) : Int) = ((D.natAbs * L : Nat) : Int) := by rw [he]
        rw [Int.natCast_mul, Int.natCast_mul, h1, Int.neg_mul] at h2
        rw [Int.neg_mul, h2, Int.neg_neg]
      · have hU : 0 < U := by
          rcases Nat.eq_zero_or_pos U with y | y
          · rw [y, Nat.zero_mul] at he
            have := Nat.mul_pos (show 0 < D.natAbs by omega) hL
            omega
          · exact y
        unfold sg
        rw [if_pos (by omega), if_pos z]
    · refine ⟨(U : Int), by simp, ?_, ?_⟩
      · have h1 : (D.natAbs : Int) = D := by omega
        have h2 : ((U * R : Nat) : Int) = ((D.natAbs * L : Nat) : Int) := by rw [he]
        rw [Int.natCast_mul, Int.natCast_mul, h1] at h2
        exact h2
      · unfold sg
        rcases Int.lt_or_eq_of_le z with y | y
        · have hU : 0 < U := by
            rcases Nat.eq_zero_or_pos U with x | x
            · rw [x, Nat.zero_mul] at he
              have := Nat.mul_pos (show 0 < D.natAbs by omega) hL
              omega
            · exact x
          rw [if_neg (by omega), if_neg (by omega), if_neg (by omega), if_neg (by omega)]
        · have he0 : U * R = 0 := by rw [he, ← y]; simp
          have hU : U = 0 := (Nat.mul_eq_zero.mp he0).resolve_right (by omega)
          rw [← y, hU]; rfl
  obtain ⟨n, hn, hm, hsg⟩ := hs
  have hc : Nat.Coprime n.natAbs L := by rw [hn]; exact hg
  have e : (⟨n, L, by omega, hc⟩ : Rat) = mkRat D R := by
    rw [Rat.mk_eq_mkRat, Rat.mkRat_eq_iff (by omega) (by omega)]
    exact hm
  rw [← e]
  exact ⟨hn, rfl, hsg⟩
section RQ
variable {B : Nat} {X : pm_X} {h h' : pm_H} {Q : Option Value → pm_H → Prop} {t p r sc lo hi P M R k U0 L0 : Nat} {F : Nat → Nat} {s : Int32} {q q2 : Rat}
theorem FracQ.frm (n1 : FracQ B h p q) (f1 : Frm B h h' lo hi) (d : p + 5 ≤ lo ∨ hi ≤ p) : FracQ B h' p q := FracV.frm n1 f1 d
theorem dist_abs : dist P M = ((P : Int) - M).natAbs := by
  unfold dist
  split <;> omega
theorem ci_sg : ci P M = sg ((P : Int) - M) := by
  unfold ci sg
  rcases Nat.lt_trichotomy P M with z | z | z
  · have h1 : (P : Int) - M < 0 := by omega
    rw [if_pos z, if_pos h1]
  · have h0 : ¬ P < M := by omega
    have h1 : ¬ (P : Int) - M < 0 := by omega
    have h2 : (P : Int) - M = 0 := by omega
    rw [if_neg h0, if_pos z, if_neg h1, if_pos h2]
  · have h0 : ¬ P < M := by omega
    have h3 : ¬ P = M := by omega
    have h1 : ¬ (P : Int) - M < 0 := by omega
    have h2 : ¬ (P : Int) - M = 0 := by omega
    rw [if_neg h0, if_neg h3, if_neg h1, if_neg h2]
theorem c_tellQ (n1 : TsV B h t P M R F k) (n2 : FracV B h p s U0 L0) (d : p + 5 ≤ t ∨ t + 10 ≤ p) (hF : ∀ i, i < k → 0 < F i ∧ F i < 2 ^ 20) (hR : pF F k < 1000000000 ^ 6) (hD : dist P M < 1000000000 ^ 6)
    (hQ : ∀ h', FracQ B h' p (mkRat ((P : Int) - M) (pF F k)) → sml (mkRat ((P : Int) - M) (pF F k)) → TsV B h' t P M R F k → Frm B h h' p (p + 5) → Q none h') : PW B X 49 0 [some (.ref t), some (.ref p), none, none, none] [] h Q := by
  refine c_tell n1 n2 d hF hR (fun h' U L x1 x2 x3 x4 x5 x6 x7 x8 => ?_)
  have hp := pF_pos (F := F) (k := k) (fun i hi => (hF i hi).1)
  obtain ⟨y1, y2, y3⟩ := rat_of (D := (P : Int) - M) hp x4 x2 (by rw [← dist_abs]; exact x3)
  refine hQ h' ?_ ?_ x7 x8
  · unfold FracQ
    rw [y1, y2, y3, ← ci_sg]
    exact x1
  · unfold sml
    rw [y1, y2]
    exact ⟨by omega, by omega⟩
/-- the order of two rational numbers, as the program tells it -/
def cq (q q2 : Rat) : Int32 := if q < q2 then -1 else if q = q2 then 0 else 1
theorem cq_eq : (if sg q.num = sg q2.num then sg q.num * ci (q.num.natAbs * q2.den) (q2.num.natAbs * q.den) else if sg q.num < sg q2.num then -1 else 1) = cq q q2 := by
  have hd := q.den_pos
  have hd2 := q2.den_pos
  unfold cq
  simp only [Rat.lt_iff, Rat.eq_iff_mul_eq_mul]
  generalize q.den = d at hd ⊢
  generalize q2.den = d2 at hd2 ⊢
  generalize q.num = n
  generalize q2.num = n2
  have pos : ∀ {a : Int} {b : Nat}, 0 < a → 0 < b → 0 < a * (b : Int) := fun ha hb => Int.mul_pos ha (by omega)
  have neg : ∀ {a : Int} {b : Nat}, a < 0 → 0 < b → a * (b : Int) < 0 := fun ha hb => Int.mul_neg_of_neg_of_pos ha (by omega)
  have ab : ∀ {a : Int} {b : Nat}, ((a.natAbs * b : Nat) : Int) = if a < 0 then -(a * b) else a * b := by
    intro a b
    rw [Int.natCast_mul]
    split
    · rw [show (a.natAbs : Int) = -a by omega, Int.neg_mul]
    · rw [show (a.natAbs : Int) = a by omega]
  have k1 := ab (a := n) (b := d2)
  have k2 := ab (a := n2) (b := d)
  generalize n.natAbs * d2 = A at k1 ⊢
  generalize n2.natAbs * d = A2 at k2 ⊢
  rcases Int.lt_trichotomy n 0 with z | z | z <;> rcases Int.lt_trichotomy n2 0 with y | y | y
  · have p1 := neg z hd2
    have p2 := neg y hd
    rw [if_pos z] at k1; rw [if_pos y] at k2
    have s1 : sg n = -1 := if_pos z
    have s2 : sg n2 = -1 := if_pos y
    rw [s1, s2, if_pos rfl]
    generalize n * (d2 : Int) = E at *
    generalize n2 * (d : Int) = E2 at *
    unfold ci
    rcases Int.lt_trichotomy E E2 with w | w | w
    · have r1 : ¬ A < A2 := by omega
      have r2 : ¬ A = A2 := by omega
      rw [if_neg r1, if_neg r2, if_pos w]; decide
    · have r1 : ¬ A < A2 := by omega
      have r2 : A = A2 := by omega
      have r3 : ¬ E < E2 := by omega
      rw [if_neg r1, if_pos r2, if_neg r3, if_pos w]; decide
    · have r1 : A < A2 := by omega
      have r3 : ¬ E < E2 := by omega
      have r4 : ¬ E = E2 := by omega
      rw [if_pos r1, if_neg r3, if_neg r4]; decide
  · subst y
    have p1 := neg z hd2
    have s1 : sg n = -1 := if_pos z
    rw [s1, show sg 0 = 0 from rfl, if_neg (by decide), if_pos (by decide), if_pos (by rw [Int.zero_mul]; exact p1)]
  · have p1 := neg z hd2
    have p2 := pos y hd
    have s1 : sg n = -1 := if_pos z
    have s2 : sg n2 = 1 := by unfold sg; rw [if_neg (by omega), if_neg (by omega)]
    rw [s1, s2, if_neg (by decide), if_pos (by decide), if_pos (by omega)]
  · subst z
    have p2 := neg y hd
    have s2 : sg n2 = -1 := if_pos y
    rw [s2, show sg 0 = 0 from rfl, if_neg (by decide), if_neg (by decide), if_neg (by rw [Int.zero_mul]; omega), if_neg (by rw [Int.zero_mul]; omega)]
  · subst z; subst y
    simp [sg]
  · subst z
    have p2 := pos y hd
    have s2 : sg n2 = 1 := by unfold sg; rw [if_neg (by omega), if_neg (by omega)]
    rw [s2, show sg 0 = 0 from rfl, if_neg (by decide), if_pos (by decide), if_pos (by rw [Int.zero_mul]; exact p2)]
  · have p1 := pos z hd2
    have p2 := neg y hd
    have s1 : sg n = 1 := by unfold sg; rw [if_neg (by omega), if_neg (by omega)]
    have s2 : sg n2 = -1 := if_pos y
    rw [s1, s2, if_neg (by decide), if_neg (by decide), if_neg (by omega), if_neg (by omega)]
  · subst y
    have p1 := pos z hd2
    have s1 : sg n = 1 := by unfold sg; rw [if_neg (by omega), if_neg (by omega)]
    rw [s1, show sg 0 = 0 from rfl, if_neg (by decide), if_neg (by decide), if_neg (by rw [Int.zero_mul]; omega), if_neg (by rw [Int.zero_mul]; omega)]
  · have p1 := pos z hd2
    have p2 := pos y hd
    rw [if_neg (by omega)] at k1; rw [if_neg (by omega)] at k2
    have s1 : sg n = 1 := by unfold sg; rw [if_neg (by omega), if_neg (by omega)]
    have s2 : sg n2 = 1 := by unfold sg; rw [if_neg (by omega), if_neg (by omega)]
    rw [s1, s2, if_pos rfl]
    generalize n * (d2 : Int) = E at *
    generalize n2 * (d : Int) = E2 at *
    unfold ci
    rcases Int.lt_trichotomy E E2 with w | w | w
    · have r1 : A < A2 := by omega
      rw [if_pos r1, if_pos w]; decide
    · have r1 : ¬ A < A2 := by omega
      have r2 : A = A2 := by omega
      have r3 : ¬ E < E2 := by omega
      rw [if_neg r1, if_pos r2, if_neg r3, if_pos w]; decide
    · have r1 : ¬ A < A2 := by omega
      have r2 : ¬ A = A2 := by omega
      have r3 : ¬ E < E2 := by omega
      have r4 : ¬ E = E2 := by omega
      rw [if_neg r1, if_neg r2, if_neg r3, if_neg r4]; decide
theorem c_cmpQ (n0 : ScV B h sc) (n1 : FracQ B h p q) (n2 : FracQ B h r q2) (b1 : sml q) (b2 : sml q2) (d1 : p + 5 ≤ sc ∨ sc + 5 ≤ p) (d2 : r + 5 ≤ sc ∨ sc + 5 ≤ r)
    (hQ : ∀ h', ScV B h' sc → Frm B h h' (sc + 1) (sc + 5) → Q (some (.int (cq q q2))) h') : PW B X 56 0 [some (.ref sc), some (.ref p), some (.ref r)] [] h Q := by
  refine c_cmp n0 n1 n2 b1.1 b1.2 b2.1 b2.2 d1 d2 (fun h' x1 x2 => ?_)
  rw [cq_eq]
  exact hQ h' x1 x2
end RQ

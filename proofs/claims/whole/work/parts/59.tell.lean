/-! TermSum.tell: the sum as a fraction in least terms. -/
def pF (F : Nat → Nat) : Nat → Nat
  | 0 => 1
  | k + 1 => pF F k * F k
def dist (P M : Nat) : Nat := if P < M then M - P else P - M
theorem pF_pos {F : Nat → Nat} : ∀ {k : Nat}, (∀ i, i < k → 0 < F i) → 0 < pF F k
  | 0, _ => Nat.one_pos
  | k + 1, h => Nat.mul_pos (pF_pos (fun i hi => h i (by omega))) (h k (by omega))
theorem pF_le {F : Nat → Nat} {k : Nat} (h : ∀ i, i < k → 0 < F i) : ∀ {j : Nat}, j ≤ k → pF F j ≤ pF F k := by
  induction k with
  | zero => intro j hj; obtain rfl : j = 0 := by omega
            exact Nat.le_refl _
  | succ k ih =>
    intro j hj
    rcases Nat.lt_or_ge k j with z | z
    · obtain rfl : j = k + 1 := by omega
      exact Nat.le_refl _
    · exact Nat.le_trans (ih (fun i hi => h i (by omega)) z) (Nat.le_mul_of_pos_right _ (h k (by omega)))
section TT
variable {B : Nat} {X : pm_X} {h h' : pm_H} {Q : Option Value → pm_H → Prop} {t p lo hi P M R k U L U0 L0 : Nat} {F : Nat → Nat} {s : Int32}
set_option maxHeartbeats 1000000 in
theorem c_tell (n1 : TsV B h t P M R F k) (n2 : FracV B h p s U0 L0) (d : p + 5 ≤ t ∨ t + 10 ≤ p) (hF : ∀ i, i < k → 0 < F i ∧ F i < 2 ^ 20) (hR : pF F k < 1000000000 ^ 6)
    (hQ : ∀ h' U L, FracV B h' p (ci P M) U L → Nat.gcd U L = 1 → U * pF F k = dist P M * L → 0 < L → L ≤ pF F k → U ≤ dist P M → TsV B h' t P M R F k → Frm B h h' p (p + 5) → Q none h') :
    PW B X 49 0 [some (.ref t), some (.ref p), none, none, none] [] h Q := by
  obtain ⟨N, f, h1, h2, h3, h4, h5, h6, h7, h8⟩ := id n1
  obtain ⟨g1, g2, g3⟩ := n2
  simp only [u_49_0, u_49_0n, u_49_1, u_49_1n, u_49_2, u_49_5, u_49_5n, u_49_6, u_49_9, u_49_12, pm_O_some, pm_w_nil, pm_w_i, pm_w_l, pm_w_r, pm_w_n, pm_c_n, pm_c_i, pm_c_l, pm_c_r, pm_c_u, Nat.reduceAdd, Nat.reduceLeDiff, true_and, Option.toList_some, Option.toList_none, List.cons_append, List.nil_append, h1, g1, gf_7_0, gf_7_1, h2.io, c_ncmp h2 h3, pf_8_0]
  have F0 := Frm.set (e := .inr (8, [.int (ci P M), .ref (p + 1), .ref (p + 3)])) g1 rfl
  have a2 := pm_at_self (e := .inr (8, [.int (ci P M), .ref (p + 1), .ref (p + 3)])) (pm_v_at g1)
  generalize pm_set B h p (.inr (8, [.int (ci P M), .ref (p + 1), .ref (p + 3)])) = ha at F0 a2 ⊢
  have t0 := n1.frm F0 (by omega)
  have u0 := g2.frm F0 (by omega)
  have l0 := g3.frm F0 (by omega)
  -- the loop over the factors
  have loop : ∀ r i hb w3 w4 U L, i + r = k → TsV B hb t P M R F k → FracV B hb p (ci P M) U L → Frm B h hb p (p + 5) → Nat.gcd U L = 1 → U * pF F i = dist P M * L → 0 < L → L ≤ pF F i → U ≤ dist P M →
      PW B X 49 75 [some (.ref t), some (.ref p), some (.int (nI i)), w3, w4] [] hb Q := by
    intro r
    induction r with
    | zero =>
      intro i hb w3 w4 U L hi x1 x2 FB c1 c2 c3 c4 c5
      obtain rfl : i = k := by omega
      obtain ⟨N, f, y1, yr⟩ := id x1
      have e2 : nI i ≤ nI i := nI_le (Nat.le_refl _) (by omega)
      simp only [u_49_75, u_49_76, u_49_76n, u_49_77, u_49_80, u_49_141, pm_O_some, pm_w_nil, pm_w_i, pm_w_l, pm_w_r, pm_w_n, pm_c_n, pm_c_i, pm_c_l, pm_c_r, pm_c_u, Nat.reduceAdd, Nat.reduceLeDiff, true_and, Option.toList_some, Option.toList_none, List.cons_append, List.nil_append, y1, gf_7_5, if_pos e2]
      exact hQ hb U L x2 c1 c2 c3 c4 c5 x1 FB
    | succ r ih =>
      intro i hb w3 w4 U L hi x1 x2 FB c1 c2 c3 c4 c5
      obtain ⟨N, f, y1, y2, y3, y4, y5, y6, y7, y8⟩ := id x1
      obtain ⟨v1, v2, v3⟩ := x2
      have hik : i < k := by omega
      have e2 : ¬ nI k ≤ nI i := nI_ge hik (by omega)
      have hFi := hF i hik
      have hg0 : 0 < Nat.gcd (F i) (U % F i) := Nat.gcd_pos_of_pos_left _ hFi.1
      have hgF : Nat.gcd (F i) (U % F i) ≤ F i := Nat.gcd_le_left _ hFi.1
      have hgg : Nat.gcd (F i) (U % F i) = Nat.gcd (F i) U := by rw [Nat.gcd_comm, ← Nat.gcd_rec]
      rw [u_49_75]
      simp only [u_49_76, u_49_76n, u_49_77, u_49_80, u_49_83, u_49_83n, u_49_84, u_49_87, u_49_88, u_49_89, u_49_89n, u_49_90, u_49_93, u_49_93n, u_49_94, u_49_97, u_49_98, u_49_99, u_49_102, u_49_105, u_49_106, u_49_107, u_49_108, u_49_109, pm_O_some, pm_w_nil, pm_w_i, pm_w_l, pm_w_r, pm_w_n, pm_c_n, pm_c_i, pm_c_l, pm_c_r, pm_c_u, Nat.reduceAdd, Nat.reduceLeDiff, true_and, Option.toList_some, Option.toList_none, List.cons_append, List.nil_append, y1, v1, gf_7_4, gf_7_5, gf_8_1, if_neg e2, y6, ld_l (pm_ix_of (show i < 6 by omega) (by decide)), nI_clamp (show i < 2 ^ 31 by omega), y8 i hik, v2.io, c_nrem v2 hFi.1 (show F i < 1000000000 by omega), c_gcd (show F i < 2 ^ 45 by omega) (show U % F i < 2 ^ 63 by have := Nat.mod_lt U hFi.1; omega), lg_cmp_le, if_neg (l_nle0 hg0 (show Nat.gcd (F i) (U % F i) < 2 ^ 63 by omega))]
      rw [hgg] at hg0 hgF ⊢
      simp only [u_49_112, u_49_112n, u_49_113, u_49_116, u_49_117, pm_O_some, pm_w_nil, pm_w_i, pm_w_l, pm_w_r, pm_w_n, pm_c_n, pm_c_i, pm_c_l, pm_c_r, pm_c_u, Nat.reduceAdd, Nat.reduceLeDiff, true_and, Option.toList_some, Option.toList_none, List.cons_append, List.nil_append, v1, gf_8_1, v2.io]
      refine c_ndiv v2 hg0 (by omega) (fun hc k1 F1 => ?_)
      have w1 := x1.frm F1 (by omega)
      obtain ⟨N', f', z1, z2, z3, z4, z5, z6, z7, z8⟩ := id w1
      have q1 : pm_at B hc p = _ := (F1.2.2 p (by omega)).trans v1
      have q3 := v3.frm F1 (by omega)
      simp only [u_49_120, u_49_120n, u_49_121, u_49_124, u_49_124n, u_49_125, u_49_128, u_49_129, u_49_130, u_49_131, u_49_132, pm_O_some, pm_w_nil, pm_w_i, pm_w_l, pm_w_r, pm_w_n, pm_c_n, pm_c_i, pm_c_l, pm_c_r, pm_c_u, Nat.reduceAdd, Nat.reduceLeDiff, true_and, Option.toList_some, Option.toList_none, List.cons_append, List.nil_append, z1, q1, gf_7_4, gf_8_2, z6, ld_l (pm_ix_of (show i < 6 by omega) (by decide)), nI_clamp (show i < 2 ^ 31 by omega), z8 i hik, q3.io, l_ne0 hg0 (show Nat.gcd (F i) U < 2 ^ 63 by omega), not_false_eq_true, pk_lDiv (show F i < 2 ^ 63 by omega) hg0 (show Nat.gcd (F i) U < 2 ^ 63 by omega)]
      have hdv : F i / Nat.gcd (F i) U ≤ F i := Nat.div_le_self _ _
      have hpi : pF F (i + 1) ≤ pF F k := pF_le (fun j hj => (hF j hj).1) hik
      have hLF : L * (F i / Nat.gcd (F i) U) ≤ pF F (i + 1) := Nat.mul_le_mul c4 hdv
      refine c_nmul q3 (show F i / Nat.gcd (F i) U < 1000000000 by omega) (by omega) (fun hd k2 F2 => ?_)
      simp only [u_49_135, u_49_138, pm_O_some, pm_w_nil, pm_w_i, pm_w_l, pm_w_r, pm_w_n, pm_c_n, pm_c_i, pm_c_l, pm_c_r, pm_c_u, Nat.reduceAdd, Nat.reduceLeDiff, true_and, Option.toList_some, Option.toList_none, List.cons_append, List.nil_append, nI_1]
      have hdU : Nat.gcd (F i) U ∣ U := Nat.gcd_dvd_right _ _
      have hdF : Nat.gcd (F i) U ∣ F i := Nat.gcd_dvd_left _ _
      refine ih (i + 1) hd _ _ _ _ (by omega) (w1.frm F2 (by omega)) ⟨(F2.2.2 p (by omega)).trans q1, k1.frm F2 (by omega), k2⟩ ((FB.trans (F1.mono (by omega) (by omega))).trans (F2.mono (by omega) (by omega))) ?_ ?_ ?_ hLF (Nat.le_trans (Nat.div_le_self _ _) c5)
      · have cc1 : Nat.Coprime (U / Nat.gcd (F i) U) L := Nat.Coprime.coprime_dvd_left (Nat.div_dvd_of_dvd hdU) c1
        have cc2 : Nat.Coprime (F i / Nat.gcd (F i) U) (U / Nat.gcd (F i) U) := Nat.coprime_div_gcd_div_gcd hg0
        exact Nat.Coprime.mul_right cc1 cc2.symm
      · rw [pF]
        obtain ⟨u', hu'⟩ := hdU
        obtain ⟨f', hf'⟩ := hdF
        generalize Nat.gcd (F i) U = G at hg0 hu' hf' ⊢
        rw [hu', hf', Nat.mul_div_cancel_left _ hg0, Nat.mul_div_cancel_left _ hg0]
        rw [hu'] at c2
        have : u' * (pF F i * (G * f')) = (G * u' * pF F i) * f' := by
          rw [Nat.mul_comm G u', Nat.mul_assoc u' G, Nat.mul_assoc u', Nat.mul_comm G (pF F i), Nat.mul_assoc (pF F i)]
        rw [this, c2, Nat.mul_assoc]
      · exact Nat.mul_pos c3 (Nat.div_pos hgF hg0)
  -- lower := 1, then the loop
  have mid : ∀ hb, TsV B hb t P M R F k → FracV B hb p (ci P M) (dist P M) L0 → Frm B h hb p (p + 5) → PW B X 49 65 [some (.ref t), some (.ref p), none, none, none] [] hb Q := by
    intro hb x1 x2 FB
    obtain ⟨v1, v2, v3⟩ := x2
    simp only [u_49_65, u_49_65n, u_49_66, u_49_69, u_49_70, pm_O_some, pm_w_nil, pm_w_i, pm_w_l, pm_w_r, pm_w_n, pm_c_n, pm_c_i, pm_c_l, pm_c_r, pm_c_u, Nat.reduceAdd, Nat.reduceLeDiff, true_and, Option.toList_some, Option.toList_none, List.cons_append, List.nil_append, v1, gf_8_2, v3.io]
    rw [show (1 : Int64) = lN 1 from rfl]
    refine c_nput v3 (by decide) (fun hc k1 F1 => ?_)
    simp only [u_49_73, u_49_74, pm_O_some, pm_w_nil, pm_w_i, pm_w_l, pm_w_r, pm_w_n, pm_c_n, pm_c_i, pm_c_l, pm_c_r, pm_c_u, Nat.reduceAdd, Nat.reduceLeDiff, true_and, Option.toList_some, Option.toList_none, List.cons_append, List.nil_append]
    exact loop k 0 hc none none (dist P M) 1 (by omega) (x1.frm F1 (by omega)) ⟨(F1.2.2 p (by omega)).trans v1, v2.frm F1 (by omega), k1⟩ (FB.trans (F1.mono (by omega) (by omega))) (Nat.gcd_one_right _) (by simp [pF]) (by decide) (by simp [pF]) (Nat.le_refl _)
  obtain ⟨N2, f2, s1, s2, s3, s4, s5, s6, s7, s8⟩ := id t0
  by_cases hPM : P < M
  · have e1 : ¬ 0 ≤ ci P M := by unfold ci; rw [if_pos hPM]; decide
    simp only [u_49_15, u_49_15n, u_49_16, u_49_19, u_49_19n, u_49_20, u_49_23, u_49_26, u_49_26n, u_49_27, u_49_30, u_49_33, u_49_33n, u_49_34, u_49_37, pm_O_some, pm_w_nil, pm_w_i, pm_w_l, pm_w_r, pm_w_n, pm_c_n, pm_c_i, pm_c_l, pm_c_r, pm_c_u, Nat.reduceAdd, Nat.reduceLeDiff, true_and, Option.toList_some, Option.toList_none, List.cons_append, List.nil_append, a2, s1, gf_7_0, gf_7_1, gf_8_0, gf_8_1, if_neg e1, u0.io]
    refine c_ncopy u0 s3 (by omega) (fun hb k1 F1 => ?_)
    have b2 : pm_at B hb p = _ := (F1.2.2 p (by omega)).trans a2
    have t1 := t0.frm F1 (by omega)
    obtain ⟨N3, f3, r1, r2, r3, rr⟩ := id t1
    simp only [u_49_40, u_49_40n, u_49_41, u_49_44, u_49_44n, u_49_45, u_49_48, u_49_51, u_49_51n, u_49_52, u_49_55, u_49_58, u_49_58n, u_49_59, u_49_62, pm_O_some, pm_w_nil, pm_w_i, pm_w_l, pm_w_r, pm_w_n, pm_c_n, pm_c_i, pm_c_l, pm_c_r, pm_c_u, Nat.reduceAdd, Nat.reduceLeDiff, true_and, Option.toList_some, Option.toList_none, List.cons_append, List.nil_append, b2, r1, gf_7_0, gf_7_1, gf_8_0, gf_8_1, if_neg e1, k1.io]
    refine c_nsub k1 r2 (by omega) (by omega) (fun hc k2 F2 => ?_)
    refine mid hc (t1.frm F2 (by omega)) ⟨(F2.2.2 p (by omega)).trans b2, ?_, (l0.frm F1 (by omega)).frm F2 (by omega)⟩ (((F0.mono (by omega) (by omega)).trans (F1.mono (by omega) (by omega))).trans (F2.mono (by omega) (by omega)))
    rw [show dist P M = M - P by unfold dist; rw [if_pos hPM]]
    exact k2
  · have e1 : 0 ≤ ci P M := by
      unfold ci
      rw [if_neg hPM]
      split <;> decide
    simp only [u_49_15, u_49_15n, u_49_16, u_49_19, u_49_19n, u_49_20, u_49_23, u_49_26, u_49_26n, u_49_27, u_49_30, u_49_33, u_49_33n, u_49_34, u_49_37, pm_O_some, pm_w_nil, pm_w_i, pm_w_l, pm_w_r, pm_w_n, pm_c_n, pm_c_i, pm_c_l, pm_c_r, pm_c_u, Nat.reduceAdd, Nat.reduceLeDiff, true_and, Option.toList_some, Option.toList_none, List.cons_append, List.nil_append, a2, s1, gf_7_0, gf_7_1, gf_8_0, gf_8_1, if_pos e1, u0.io]
    refine c_ncopy u0 s2 (by omega) (fun hb k1 F1 => ?_)
    have b2 : pm_at B hb p = _ := (F1.2.2 p (by omega)).trans a2
    have t1 := t0.frm F1 (by omega)
    obtain ⟨N3, f3, r1, r2, r3, rr⟩ := id t1
    simp only [u_49_40, u_49_40n, u_49_41, u_49_44, u_49_44n, u_49_45, u_49_48, u_49_51, u_49_51n, u_49_52, u_49_55, u_49_58, u_49_58n, u_49_59, u_49_62, pm_O_some, pm_w_nil, pm_w_i, pm_w_l, pm_w_r, pm_w_n, pm_c_n, pm_c_i, pm_c_l, pm_c_r, pm_c_u, Nat.reduceAdd, Nat.reduceLeDiff, true_and, Option.toList_some, Option.toList_none, List.cons_append, List.nil_append, b2, r1, gf_7_0, gf_7_1, gf_8_0, gf_8_1, if_pos e1, k1.io]
    refine c_nsub k1 r3 (by omega) (by omega) (fun hc k2 F2 => ?_)
    refine mid hc (t1.frm F2 (by omega)) ⟨(F2.2.2 p (by omega)).trans b2, ?_, (l0.frm F1 (by omega)).frm F2 (by omega)⟩ (((F0.mono (by omega) (by omega)).trans (F1.mono (by omega) (by omega))).trans (F2.mono (by omega) (by omega)))
    rw [show dist P M = P - M by unfold dist; rw [if_neg hPM]]
    exact k2
end TT

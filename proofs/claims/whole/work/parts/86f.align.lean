/-! REGISTERS: align, compareSizes. -/
def AL (a b : Nat) (R R' : Nat → Rg) (k : Nat) : Prop := ((R' a).1 = (R a).1 ∧ (R' b).1 = (R b).1) ∧ ((R' a).2.1 * dp (R a).2.2 168 = (R a).2.1 * dp (R' a).2.2 168 ∧ (R' b).2.1 * dp (R b).2.2 168 = (R b).2.1 * dp (R' b).2.2 168) ∧ (∀ j, (R' a).2.2 j ≤ (R a).2.2 j + (R b).2.2 j ∧ (R' b).2.2 j ≤ (R a).2.2 j + (R b).2.2 j) ∧ (∀ j, j < k → (R' a).2.2 j = (R' b).2.2 j) ∧ ∀ j, ¬ j = a → ¬ j = b → R' j = R j
theorem AL.swap {a b k : Nat} {R R' : Nat → Rg} (z : AL a b R R' k) : AL b a R R' k := by
  obtain ⟨⟨a1, a2⟩, ⟨a3, a4⟩, a5, a6, a7⟩ := z
  exact ⟨⟨a2, a1⟩, ⟨a4, a3⟩, fun j => by have := a5 j; omega, fun j hj => (a6 j hj).symm, fun j h1 h2 => a7 j h2 h1⟩
theorem AL.refl {a b : Nat} {R : Nat → Rg} : AL a b R R 0 := ⟨⟨rfl, rfl⟩, ⟨rfl, rfl⟩, fun j => by omega, fun j hj => by omega, fun _ _ _ => rfl⟩
/-- one step -/
def alu (a k : Nat) (R' : Nat → Rg) : Nat → Rg := ups R' a ((R' a).1, (R' a).2.1 * pr k, ups (R' a).2.2 k ((R' a).2.2 k + 1))
theorem AL.up {a b k : Nat} {R R' : Nat → Rg} (z : AL a b R R' k) (hn : ¬ a = b) (hk : k < 168) (h : (R' a).2.2 k < (R' b).2.2 k) : AL a b R (alu a k R') k := by
  obtain ⟨⟨a1, a2⟩, ⟨a3, a4⟩, a5, a6, a7⟩ := z
  have e1 : alu a k R' a = ((R' a).1, (R' a).2.1 * pr k, ups (R' a).2.2 k ((R' a).2.2 k + 1)) := ups_s
  have e2 : alu a k R' b = R' b := ups_n (fun c => hn c.symm)
  unfold AL
  rw [e1, e2]
  refine ⟨⟨a1, a2⟩, ⟨?_, a4⟩, fun j => ⟨?_, (a5 j).2⟩, fun j hj => ?_, fun j h1 h2 => ?_⟩
  · show (R' a).2.1 * pr k * _ = (R a).2.1 * dp (ups (R' a).2.2 k ((R' a).2.2 k + 1)) 168
    rw [dp_up hk, Nat.mul_right_comm, a3, Nat.mul_assoc]
  · show ups (R' a).2.2 k ((R' a).2.2 k + 1) j ≤ _
    by_cases c : j = k
    · rw [c, ups_s]
      have := (a5 k).2
      omega
    · rw [ups_n c]
      exact (a5 j).1
  · show ups (R' a).2.2 k ((R' a).2.2 k + 1) j = _
    rw [ups_n (by omega)]
    exact a6 j hj
  · show ups R' a _ j = R j
    rw [ups_n h1]
    exact a7 j h1 h2
theorem AL.bnd {a b k : Nat} {R R' : Nat → Rg} (z : AL a b R R' k) : (R' a).2.1 ≤ (R a).2.1 * dp (R b).2.2 168 ∧ dp (R' a).2.2 168 ≤ dp (R a).2.2 168 * dp (R b).2.2 168 := by
  obtain ⟨⟨a1, a2⟩, ⟨a3, a4⟩, a5, a6, a7⟩ := z
  have t : dp (R' a).2.2 168 ≤ dp (R a).2.2 168 * dp (R b).2.2 168 := dp_add (Nat.le_refl _) (fun k _ => (a5 k).1)
  refine ⟨?_, t⟩
  refine Nat.le_of_mul_le_mul_right ?_ (dp_pos (f := (R a).2.2) (Nat.le_refl 168))
  rw [a3, Nat.mul_assoc, Nat.mul_comm (dp (R b).2.2 168)]
  exact Nat.mul_le_mul_left _ t
section ALS
variable {B : Nat} {X : pm_X} {h h' : pm_H} {Q : Option Value → pm_H → Prop} {m a b k : Nat} {fl : Nat → Int64} {fu fs fw : Nat → Int32} {g : Rg} {R R' : Nat → Rg}
/-- a power's step, written -/
theorem c_pinc {fl : Nat → Int64} {fu fs fw : Nat → Int32} (n2 : NA B h m fl fu fs fw) (n3 : ∀ r, r < 8 → RG fl fu fs fw r (ups R' a ((R' a).1, (R' a).2.1 * pr k, (R' a).2.2) r)) (ha : a < 8) (hk : k < 168) (hx : (R' a).2.2 k + 1 < 2 ^ 20) : NS B (pm_set B h (m + 21) (.inl (0, 1344, .inl (upd fw (168 * a + k) (nI ((R' a).2.2 k + 1)))))) m (alu a k R') ∧ Frm B h (pm_set B h (m + 21) (.inl (0, 1344, .inl (upd fw (168 * a + k) (nI ((R' a).2.2 k + 1)))))) (m + 18) (m + 22) := by
  obtain ⟨y1, y2⟩ := n2.setw (upd fw (168 * a + k) (nI ((R' a).2.2 k + 1)))
  refine ⟨⟨_, _, _, _, y1, fun j hj => ?_⟩, y2⟩
  have t := NS.pow n3 ha hk hx j hj
  by_cases c : j = a
  · subst c
    rw [ups_s, ups_s] at t
    have e : alu j k R' j = ((R' j).1, (R' j).2.1 * pr k, ups (R' j).2.2 k ((R' j).2.2 k + 1)) := ups_s
    rw [e]
    exact t
  · rw [ups_n c, ups_n c] at t
    have e : alu a k R' j = R' j := ups_n c
    rw [e]
    exact t
theorem c_align (n1 : NS B h m R) (ha : a < 8) (hb : b < 8) (hn : ¬ a = b) (b1 : (R a).2.1 * dp (R b).2.2 168 < 1000000000 ^ 40) (b2 : (R b).2.1 * dp (R a).2.2 168 < 1000000000 ^ 40) (b3 : dp (R a).2.2 168 < 1000000000 ^ 24) (b4 : dp (R b).2.2 168 < 1000000000 ^ 24)
    (hQ : ∀ h' R', NS B h' m R' → AL a b R R' 168 → Frm B h h' (m + 18) (m + 22) → Q none h') : PW B X 119 0 [some (.ref m), some (.int (nI a)), some (.int (nI b)), none] [] h Q := by
  have outer : ∀ d k hc R', k + d = 168 → NS B hc m R' → AL a b R R' k → Frm B h hc (m + 18) (m + 22) → PW B X 119 2 [some (.ref m), some (.int (nI a)), some (.int (nI b)), some (.int (nI k))] [] hc Q := by
    intro d
    induction d with
    | zero =>
      intro k hc R' hk m1 i1 m2
      obtain rfl : k = 168 := by omega
      have e1 : (168 : Int32) ≤ nI 168 := by decide
      simp only [u_119_2, u_119_3, u_119_6, u_119_129, pm_O_some, pm_w_nil, pm_w_i, pm_w_l, pm_w_r, pm_w_n, pm_c_n, pm_c_i, pm_c_l, pm_c_r, pm_c_u, Nat.reduceAdd, Nat.reduceLeDiff, true_and, Option.toList_some, Option.toList_none, List.cons_append, List.nil_append, if_pos e1]
      exact hQ hc R' m1 i1 m2
    | succ d ih =>
      intro k hc R' hk m1 i1 m2
      have e1 : ¬ (168 : Int32) ≤ nI k := nI_ge (b := 168) (by omega) (by decide)
      have hk1 : k < 168 := by omega
      have hpk := pr_b hk1
      have px : (R a).2.2 k < 720 := dp_pw hk1 b3
      have py : (R b).2.2 k < 720 := dp_pw hk1 b4
      have innerB : ∀ e hc R', NS B hc m R' → AL a b R R' k → (R' b).2.2 k + e = (R' a).2.2 k → Frm B h hc (m + 18) (m + 22) → PW B X 119 66 [some (.ref m), some (.int (nI a)), some (.int (nI b)), some (.int (nI k))] [] hc Q := by
        intro e
        induction e with
        | zero =>
          intro hc R' m1 i1 he m2
          have m1' := m1
          obtain ⟨fl, fu, fs, fw, n2, n3⟩ := m1
          have a4 := n2.2.2.2.2.2
          obtain ⟨w1, w2⟩ := (n3 a ha).pw hk1
          obtain ⟨w3, w4⟩ := (n3 b hb).pw hk1
          have e2 : nI ((R' a).2.2 k) ≤ nI ((R' b).2.2 k) := nI_le (by omega) (by omega)
          simp only [u_119_66, u_119_66n, u_119_67, u_119_70, u_119_73, u_119_74, u_119_75, u_119_76, u_119_77, u_119_78, u_119_78n, u_119_79, u_119_82, u_119_85, u_119_86, u_119_87, u_119_88, u_119_89, u_119_90, u_119_123, u_119_126, pm_O_some, pm_w_nil, pm_w_i, pm_w_l, pm_w_r, pm_w_n, pm_c_n, pm_c_i, pm_c_l, pm_c_r, pm_c_u, Nat.reduceAdd, Nat.reduceLeDiff, true_and, Option.toList_some, Option.toList_none, List.cons_append, List.nil_append, n2.f30, a4, x168, ld_i (t := 0) (ix_1344 (show 168 * a + k < 1344 by omega)) rfl, ld_i (t := 0) (ix_1344 (show 168 * b + k < 1344 by omega)) rfl, nI_clamp (show 168 * a + k < 2 ^ 31 by omega), nI_clamp (show 168 * b + k < 2 ^ 31 by omega), w1, w3, if_pos e2, nI_1]
          refine ih (k + 1) hc R' (by omega) m1' ?_ m2
          obtain ⟨z1, z2, z3, z4, z5⟩ := i1
          refine ⟨z1, z2, z3, fun j hj => ?_, z5⟩
          by_cases c : j = k
          · subst c; omega
          · exact z4 j (by omega)
        | succ e ihe =>
          intro hc R' m1 i1 he m2
          have m1' := m1
          obtain ⟨fl, fu, fs, fw, n2, n3⟩ := m1
          have a4 := n2.2.2.2.2.2
          obtain ⟨fp, p1, p2⟩ := n2.2.1
          obtain ⟨w1, w2⟩ := (n3 a ha).pw hk1
          obtain ⟨w3, w4⟩ := (n3 b hb).pw hk1
          have e2 : ¬ nI ((R' a).2.2 k) ≤ nI ((R' b).2.2 k) := nI_ge (by omega) (by omega)
          have i2 : AL b a R (alu b k R') k := i1.swap.up (fun c => hn c.symm) hk1 (by omega)
          have bb := i2.bnd.1
          have ee : alu b k R' b = ((R' b).1, (R' b).2.1 * pr k, ups (R' b).2.2 k ((R' b).2.2 k + 1)) := ups_s
          have eo : alu b k R' a = R' a := ups_n hn
          rw [ee] at bb
          rw [u_119_66]
          simp only [u_119_67, u_119_70, u_119_73, u_119_74, u_119_75, u_119_76, u_119_77, u_119_78, u_119_78n, u_119_79, u_119_82, u_119_85, u_119_86, u_119_87, u_119_88, u_119_89, u_119_90, u_119_93, u_119_93n, u_119_94, u_119_95, u_119_95n, u_119_96, u_119_99, u_119_100, u_119_101, pm_O_some, pm_w_nil, pm_w_i, pm_w_l, pm_w_r, pm_w_n, pm_c_n, pm_c_i, pm_c_l, pm_c_r, pm_c_u, Nat.reduceAdd, Nat.reduceLeDiff, true_and, Option.toList_some, Option.toList_none, List.cons_append, List.nil_append, n2.f30, a4, x168, ld_i (t := 0) (ix_1344 (show 168 * a + k < 1344 by omega)) rfl, ld_i (t := 0) (ix_1344 (show 168 * b + k < 1344 by omega)) rfl, nI_clamp (show 168 * a + k < 2 ^ 31 by omega), nI_clamp (show 168 * b + k < 2 ^ 31 by omega), w1, w3, if_neg e2, n2.f26, p1, ld_i (t := 0) (ix_168 hk1) rfl, nI_clamp (show k < 2 ^ 31 by omega), p2 k hk1, n2.io]
          refine c_times m1' hb (by omega) (by omega) (Nat.lt_of_le_of_lt bb b2) (fun h2 m3 F3 => ?_)
          obtain ⟨fl', fu', fs', fw', n2', n3'⟩ := m3
          have a4' := n2'.2.2.2.2.2
          have w5 : fw' (168 * b + k) = nI ((R' b).2.2 k) := by
            have := ((n3' b hb).pw hk1).1
            rw [ups_s] at this
            exact this
          have hx : (R' b).2.2 k + 1 < 2 ^ 20 := by
            have := (i1.2.2.1 k).1
            omega
          simp only [u_119_104, u_119_104n, u_119_105, u_119_108, u_119_111, u_119_112, u_119_113, u_119_114, u_119_115, u_119_116, u_119_117, u_119_118, u_119_119, u_119_120, pm_O_some, pm_w_nil, pm_w_i, pm_w_l, pm_w_r, pm_w_n, pm_c_n, pm_c_i, pm_c_l, pm_c_r, pm_c_u, Nat.reduceAdd, Nat.reduceLeDiff, true_and, Option.toList_some, Option.toList_none, List.cons_append, List.nil_append, n2'.f30, a4', x168, ld_i (t := 0) (ix_1344 (show 168 * b + k < 1344 by omega)) rfl, st_i (t := 0) (ix_1344 (show 168 * b + k < 1344 by omega)) rfl, nI_clamp (show 168 * b + k < 2 ^ 31 by omega), ty_0, w5, nI_1]
          obtain ⟨y1, y2⟩ := c_pinc n2' n3' hb hk1 hx
          refine ihe _ _ y1 i2.swap ?_ ((m2.trans F3).trans y2)
          rw [ee, eo]
          show ups (R' b).2.2 k ((R' b).2.2 k + 1) k + e = _
          rw [ups_s]
          omega
      have innerA : ∀ e hc R', NS B hc m R' → AL a b R R' k → (R' b).2.2 k ≤ (R' a).2.2 k + e → Frm B h hc (m + 18) (m + 22) → PW B X 119 9 [some (.ref m), some (.int (nI a)), some (.int (nI b)), some (.int (nI k))] [] hc Q := by
        intro e
        induction e with
        | zero =>
          intro hc R' m1 i1 he m2
          have m1' := m1
          obtain ⟨fl, fu, fs, fw, n2, n3⟩ := m1
          have a4 := n2.2.2.2.2.2
          obtain ⟨w1, w2⟩ := (n3 a ha).pw hk1
          obtain ⟨w3, w4⟩ := (n3 b hb).pw hk1
          have e2 : nI ((R' b).2.2 k) ≤ nI ((R' a).2.2 k) := nI_le (by omega) (by omega)
          simp only [u_119_9, u_119_9n, u_119_10, u_119_13, u_119_16, u_119_17, u_119_18, u_119_19, u_119_20, u_119_21, u_119_21n, u_119_22, u_119_25, u_119_28, u_119_29, u_119_30, u_119_31, u_119_32, u_119_33, pm_O_some, pm_w_nil, pm_w_i, pm_w_l, pm_w_r, pm_w_n, pm_c_n, pm_c_i, pm_c_l, pm_c_r, pm_c_u, Nat.reduceAdd, Nat.reduceLeDiff, true_and, Option.toList_some, Option.toList_none, List.cons_append, List.nil_append, n2.f30, a4, x168, ld_i (t := 0) (ix_1344 (show 168 * a + k < 1344 by omega)) rfl, ld_i (t := 0) (ix_1344 (show 168 * b + k < 1344 by omega)) rfl, nI_clamp (show 168 * a + k < 2 ^ 31 by omega), nI_clamp (show 168 * b + k < 2 ^ 31 by omega), w1, w3, if_pos e2]
          exact innerB ((R' a).2.2 k - (R' b).2.2 k) hc R' m1' i1 (by omega) m2
        | succ e ihe =>
          intro hc R' m1 i1 he m2
          have m1' := m1
          obtain ⟨fl, fu, fs, fw, n2, n3⟩ := m1
          have a4 := n2.2.2.2.2.2
          obtain ⟨fp, p1, p2⟩ := n2.2.1
          obtain ⟨w1, w2⟩ := (n3 a ha).pw hk1
          obtain ⟨w3, w4⟩ := (n3 b hb).pw hk1
          by_cases cl : (R' a).2.2 k < (R' b).2.2 k
          · have e2 : ¬ nI ((R' b).2.2 k) ≤ nI ((R' a).2.2 k) := nI_ge (by omega) (by omega)
            have i2 : AL a b R (alu a k R') k := i1.up hn hk1 cl
            have bb := i2.bnd.1
            have ee : alu a k R' a = ((R' a).1, (R' a).2.1 * pr k, ups (R' a).2.2 k ((R' a).2.2 k + 1)) := ups_s
            have eo : alu a k R' b = R' b := ups_n (fun c => hn c.symm)
            rw [ee] at bb
            rw [u_119_9]
            simp only [u_119_10, u_119_13, u_119_16, u_119_17, u_119_18, u_119_19, u_119_20, u_119_21, u_119_21n, u_119_22, u_119_25, u_119_28, u_119_29, u_119_30, u_119_31, u_119_32, u_119_33, u_119_36, u_119_36n, u_119_37, u_119_38, u_119_38n, u_119_39, u_119_42, u_119_43, u_119_44, pm_O_some, pm_w_nil, pm_w_i, pm_w_l, pm_w_r, pm_w_n, pm_c_n, pm_c_i, pm_c_l, pm_c_r, pm_c_u, Nat.reduceAdd, Nat.reduceLeDiff, true_and, Option.toList_some, Option.toList_none, List.cons_append, List.nil_append, n2.f30, a4, x168, ld_i (t := 0) (ix_1344 (show 168 * a + k < 1344 by omega)) rfl, ld_i (t := 0) (ix_1344 (show 168 * b + k < 1344 by omega)) rfl, nI_clamp (show 168 * a + k < 2 ^ 31 by omega), nI_clamp (show 168 * b + k < 2 ^ 31 by omega), w1, w3, if_neg e2, n2.f26, p1, ld_i (t := 0) (ix_168 hk1) rfl, nI_clamp (show k < 2 ^ 31 by omega), p2 k hk1, n2.io]
            refine c_times m1' ha (by omega) (by omega) (Nat.lt_of_le_of_lt bb b1) (fun h2 m3 F3 => ?_)
            obtain ⟨fl', fu', fs', fw', n2', n3'⟩ := m3
            have a4' := n2'.2.2.2.2.2
            have w5 : fw' (168 * a + k) = nI ((R' a).2.2 k) := by
              have := ((n3' a ha).pw hk1).1
              rw [ups_s] at this
              exact this
            have hx : (R' a).2.2 k + 1 < 2 ^ 20 := by
              have := (i1.2.2.1 k).2
              omega
            simp only [u_119_47, u_119_47n, u_119_48, u_119_51, u_119_54, u_119_55, u_119_56, u_119_57, u_119_58, u_119_59, u_119_60, u_119_61, u_119_62, u_119_63, pm_O_some, pm_w_nil, pm_w_i, pm_w_l, pm_w_r, pm_w_n, pm_c_n, pm_c_i, pm_c_l, pm_c_r, pm_c_u, Nat.reduceAdd, Nat.reduceLeDiff, true_and, Option.toList_some, Option.toList_none, List.cons_append, List.nil_append, n2'.f30, a4', x168, ld_i (t := 0) (ix_1344 (show 168 * a + k < 1344 by omega)) rfl, st_i (t := 0) (ix_1344 (show 168 * a + k < 1344 by omega)) rfl, nI_clamp (show 168 * a + k < 2 ^ 31 by omega), ty_0, w5, nI_1]
            obtain ⟨y1, y2⟩ := c_pinc n2' n3' ha hk1 hx
            refine ihe _ _ y1 i2 ?_ ((m2.trans F3).trans y2)
            rw [ee, eo]
            show _ ≤ ups (R' a).2.2 k ((R' a).2.2 k + 1) k + e
            rw [ups_s]
            omega
          · have e2 : nI ((R' b).2.2 k) ≤ nI ((R' a).2.2 k) := nI_le (by omega) (by omega)
            simp only [u_119_9, u_119_9n, u_119_10, u_119_13, u_119_16, u_119_17, u_119_18, u_119_19, u_119_20, u_119_21, u_119_21n, u_119_22, u_119_25, u_119_28, u_119_29, u_119_30, u_119_31, u_119_32, u_119_33, pm_O_some, pm_w_nil, pm_w_i, pm_w_l, pm_w_r, pm_w_n, pm_c_n, pm_c_i, pm_c_l, pm_c_r, pm_c_u, Nat.reduceAdd, Nat.reduceLeDiff, true_and, Option.toList_some, Option.toList_none, List.cons_append, List.nil_append, n2.f30, a4, x168, ld_i (t := 0) (ix_1344 (show 168 * a + k < 1344 by omega)) rfl, ld_i (t := 0) (ix_1344 (show 168 * b + k < 1344 by omega)) rfl, nI_clamp (show 168 * a + k < 2 ^ 31 by omega), nI_clamp (show 168 * b + k < 2 ^ 31 by omega), w1, w3, if_pos e2]
            exact innerB ((R' a).2.2 k - (R' b).2.2 k) hc R' m1' i1 (by omega) m2
      simp only [u_119_2, u_119_3, u_119_6, pm_O_some, pm_w_nil, pm_w_i, pm_w_l, pm_w_r, pm_w_n, pm_c_n, pm_c_i, pm_c_l, pm_c_r, pm_c_u, Nat.reduceAdd, Nat.reduceLeDiff, true_and, Option.toList_some, Option.toList_none, List.cons_append, List.nil_append, if_neg e1]
      exact innerA ((R' b).2.2 k) hc R' m1 i1 (by omega) m2
  simp only [u_119_0, u_119_1, pm_O_some, pm_w_nil, pm_w_i, pm_w_l, pm_w_r, pm_w_n, pm_c_n, pm_c_i, pm_c_l, pm_c_r, pm_c_u, Nat.reduceAdd, Nat.reduceLeDiff, true_and, Option.toList_some, Option.toList_none, List.cons_append, List.nil_append]
  exact outer 168 0 h R (by omega) n1 AL.refl Frm.rfl'
theorem c_csizes (n1 : NS B h m R) (ha : a < 8) (hb : b < 8) : PW B X 120 0 [some (.ref m), some (.int (nI a)), some (.int (nI b)), none] [] h Q ↔ Q (some (.int (ci (R a).2.1 (R b).2.1))) h := by
  obtain ⟨fl, fu, fs, fw, n2, n3⟩ := n1
  obtain ⟨n, ⟨hn, hl, hr, hV, _⟩, hu⟩ := (n3 a ha).rv
  obtain ⟨n', ⟨hm, hl2, hr2, hW, _⟩, hu2⟩ := (n3 b hb).rv
  have a1 := n2.2.2.1
  have a2 := n2.2.2.2.1
  rw [← hV, ← hW]
  by_cases hnm : n = n'
  · subst hnm
    have loop : ∀ k, k ≤ n → (∀ j, k ≤ j → j < n → fl (40 * a + j) = fl (40 * b + j)) → (PW B X 120 45 [some (.ref m), some (.int (nI a)), some (.int (nI b)), some (.int (nI k - 1))] [] h Q ↔ Q (some (.int (ci (nv (fun k => fl (40 * a + k)) n) (nv (fun k => fl (40 * b + k)) n)))) h) := by
      intro k
      induction k with
      | zero =>
        intro _ hs
        have e1 : nI 0 - 1 < 0 := by decide
        have e : nv (fun k => fl (40 * a + k)) n = nv (fun k => fl (40 * b + k)) n := nv_congr (fun i hi => dg_eq (hs i (by omega) hi))
        simp only [u_120_45, u_120_46, u_120_113, u_120_114, pm_O_some, pm_w_nil, pm_w_i, pm_w_l, pm_w_r, pm_w_n, pm_c_n, pm_c_i, pm_c_l, pm_c_r, pm_c_u, Nat.reduceAdd, Nat.reduceLeDiff, true_and, Option.toList_some, Option.toList_none, List.cons_append, List.nil_append, if_pos e1, e, ci, Nat.lt_irrefl, if_false, if_true]
      | succ k ih =>
        intro hk hs
        have e1 : ¬ nI k < 0 := nI_pos (by omega)
        have hd := hl k (by omega)
        have hd2 := hl2 k (by omega)
        rw [u_120_45]
        by_cases he : fl (40 * a + k) = fl (40 * b + k)
        · simp only [u_120_46, u_120_49, u_120_49n, u_120_50, u_120_53, u_120_55, u_120_56, u_120_57, u_120_58, u_120_59, u_120_60, u_120_60n, u_120_61, u_120_64, u_120_66, u_120_67, u_120_68, u_120_69, u_120_70, u_120_71, u_120_72, u_120_107, u_120_110, pm_O_some, pm_w_nil, pm_w_i, pm_w_l, pm_w_r, pm_w_n, pm_c_n, pm_c_i, pm_c_l, pm_c_r, pm_c_u, Nat.reduceAdd, Nat.reduceLeDiff, true_and, Option.toList_some, Option.toList_none, List.cons_append, List.nil_append, nI_pred, if_neg e1, n2.f27, a1, x40, ld_l (ix_320 (show 40 * a + k < 320 by omega)), ld_l (ix_320 (show 40 * b + k < 320 by omega)), nI_clamp (show 40 * a + k < 2 ^ 31 by omega), nI_clamp (show 40 * b + k < 2 ^ 31 by omega), nI_sub1, lg_cmp_eq, he, if_true]
          exact ih (by omega) (fun j h5 h6 => by
            by_cases hj : j = k
            · rw [hj]; exact he
            · exact hs j (by omega) h6)
        · have hne : dg (fun k => fl (40 * a + k)) k ≠ dg (fun k => fl (40 * b + k)) k := fun z => he (by
            have h1 := hd.1
            have h2 := hd2.1
            rw [z, ← h2] at h1
            exact h1)
          have this : (if fl (40 * a + k) < fl (40 * b + k) then (-1 : Int32) else 1) = ci (nv (fun k => fl (40 * a + k)) n) (nv (fun k => fl (40 * b + k)) n) := by
            have t1 : fl (40 * a + k) = lN (dg (fun k => fl (40 * a + k)) k) := hd.1
            have t2 : fl (40 * b + k) = lN (dg (fun k => fl (40 * b + k)) k) := hd2.1
            have x1 := hd.2
            have x2 := hd2.2
            rw [t1, t2, ci_ln (by omega) (by omega) hne]
            unfold ci
            rcases Nat.lt_or_gt_of_ne hne with z | z
            · rw [if_pos z, if_pos (nv_lt_of (by omega) (fun i hi => (hl i hi).2) z (fun j h5 h6 => dg_eq (hs j (by omega) h6)))]
            · have := nv_lt_of (f := fun k => fl (40 * b + k)) (g := fun k => fl (40 * a + k)) (show k < n by omega) (fun i hi => (hl2 i hi).2) z (fun j h5 h6 => (dg_eq (hs j (by omega) h6)).symm)
              rw [if_neg (by omega), if_neg hne, if_neg (by omega), if_neg (by omega)]
          rw [← this]
          by_cases cl : fl (40 * b + k) ≤ fl (40 * a + k)
          · have cl2 : ¬ fl (40 * a + k) < fl (40 * b + k) := Int64.not_lt.mpr cl
            simp only [u_120_46, u_120_49, u_120_49n, u_120_50, u_120_53, u_120_55, u_120_56, u_120_57, u_120_58, u_120_59, u_120_60, u_120_60n, u_120_61, u_120_64, u_120_66, u_120_67, u_120_68, u_120_69, u_120_70, u_120_71, u_120_72, u_120_75, u_120_75n, u_120_76, u_120_79, u_120_81, u_120_82, u_120_83, u_120_84, u_120_85, u_120_86, u_120_86n, u_120_87, u_120_90, u_120_92, u_120_93, u_120_94, u_120_95, u_120_96, u_120_97, u_120_98, u_120_101, u_120_102, u_120_105, u_120_106, pm_O_some, pm_w_nil, pm_w_i, pm_w_l, pm_w_r, pm_w_n, pm_c_n, pm_c_i, pm_c_l, pm_c_r, pm_c_u, Nat.reduceAdd, Nat.reduceLeDiff, true_and, Option.toList_some, Option.toList_none, List.cons_append, List.nil_append, nI_pred, if_neg e1, n2.f27, a1, x40, ld_l (ix_320 (show 40 * a + k < 320 by omega)), ld_l (ix_320 (show 40 * b + k < 320 by omega)), nI_clamp (show 40 * a + k < 2 ^ 31 by omega), nI_clamp (show 40 * b + k < 2 ^ 31 by omega), lg_cmp_eq, he, if_false, lg_cmp_ge, if_pos cl, if_neg cl2]
          · have cl2 : fl (40 * a + k) < fl (40 * b + k) := Int64.not_le.mp cl
            simp only [u_120_46, u_120_49, u_120_49n, u_120_50, u_120_53, u_120_55, u_120_56, u_120_57, u_120_58, u_120_59, u_120_60, u_120_60n, u_120_61, u_120_64, u_120_66, u_120_67, u_120_68, u_120_69, u_120_70, u_120_71, u_120_72, u_120_75, u_120_75n, u_120_76, u_120_79, u_120_81, u_120_82, u_120_83, u_120_84, u_120_85, u_120_86, u_120_86n, u_120_87, u_120_90, u_120_92, u_120_93, u_120_94, u_120_95, u_120_96, u_120_97, u_120_98, u_120_101, u_120_102, u_120_105, u_120_106, pm_O_some, pm_w_nil, pm_w_i, pm_w_l, pm_w_r, pm_w_n, pm_c_n, pm_c_i, pm_c_l, pm_c_r, pm_c_u, Nat.reduceAdd, Nat.reduceLeDiff, true_and, Option.toList_some, Option.toList_none, List.cons_append, List.nil_append, nI_pred, if_neg e1, n2.f27, a1, x40, ld_l (ix_320 (show 40 * a + k < 320 by omega)), ld_l (ix_320 (show 40 * b + k < 320 by omega)), nI_clamp (show 40 * a + k < 2 ^ 31 by omega), nI_clamp (show 40 * b + k < 2 ^ 31 by omega), lg_cmp_eq, he, if_false, lg_cmp_ge, if_neg cl, if_pos cl2]
    simp only [u_120_0, u_120_0n, u_120_1, u_120_4, u_120_5, u_120_6, u_120_6n, u_120_7, u_120_10, u_120_11, u_120_12, u_120_36, u_120_36n, u_120_37, u_120_40, u_120_41, u_120_42, u_120_43, u_120_44, pm_O_some, pm_w_nil, pm_w_i, pm_w_l, pm_w_r, pm_w_n, pm_c_n, pm_c_i, pm_c_l, pm_c_r, pm_c_u, Nat.reduceAdd, Nat.reduceLeDiff, true_and, Option.toList_some, Option.toList_none, List.cons_append, List.nil_append, n2.f28, a2, ld_i (t := 0) (ix_8 ha) rfl, ld_i (t := 0) (ix_8 hb) rfl, nI_clamp (show a < 2 ^ 31 by omega), nI_clamp (show b < 2 ^ 31 by omega), hu, hu2, if_true]
    exact loop n (Nat.le_refl _) (fun j h5 h6 => absurd h6 (by omega))
  · have e1 : ¬ nI n = nI n' := fun z => hnm ((nI_eq (by omega) (by omega)).mp z)
    have this : (if nI n < nI n' then (-1 : Int32) else 1) = ci (nv (fun k => fl (40 * a + k)) n) (nv (fun k => fl (40 * b + k)) n') := by
      rw [ci_in (by omega) (by omega) hnm]
      unfold ci
      rcases Nat.lt_or_gt_of_ne hnm with z | z
      · obtain ⟨m, rfl⟩ : ∃ m', n' = m' + 1 := ⟨n' - 1, by omega⟩
        have t1 := nv_lt (f := fun k => fl (40 * a + k)) (n := n) (fun i hi => (hl i hi).2)
        have t2 := nv_ge hl2 hr2
        have t3 : 1000000000 ^ n ≤ 1000000000 ^ m := Nat.pow_le_pow_right (by decide) (by omega)
        rw [if_pos z, if_pos (by omega)]
      · obtain ⟨n, rfl⟩ : ∃ n', n = n' + 1 := ⟨n - 1, by omega⟩
        have t1 := nv_lt (f := fun k => fl (40 * b + k)) (n := n') (fun i hi => (hl2 i hi).2)
        have t2 := nv_ge hl hr
        have t3 : 1000000000 ^ n' ≤ 1000000000 ^ n := Nat.pow_le_pow_right (by decide) (by omega)
        rw [if_neg (by omega), if_neg hnm, if_neg (by omega), if_neg (by omega)]
    rw [← this]
    by_cases cl : nI n' ≤ nI n
    · simp only [u_120_0, u_120_0n, u_120_1, u_120_4, u_120_5, u_120_6, u_120_6n, u_120_7, u_120_10, u_120_11, u_120_12, u_120_15, u_120_15n, u_120_16, u_120_19, u_120_20, u_120_21, u_120_21n, u_120_22, u_120_25, u_120_26, u_120_27, u_120_30, u_120_31, u_120_34, u_120_35, pm_O_some, pm_w_nil, pm_w_i, pm_w_l, pm_w_r, pm_w_n, pm_c_n, pm_c_i, pm_c_l, pm_c_r, pm_c_u, Nat.reduceAdd, Nat.reduceLeDiff, true_and, Option.toList_some, Option.toList_none, List.cons_append, List.nil_append, n2.f28, a2, ld_i (t := 0) (ix_8 ha) rfl, ld_i (t := 0) (ix_8 hb) rfl, nI_clamp (show a < 2 ^ 31 by omega), nI_clamp (show b < 2 ^ 31 by omega), hu, hu2, if_neg e1, if_pos cl, if_neg (i_nlt.mpr cl)]
    · simp only [u_120_0, u_120_0n, u_120_1, u_120_4, u_120_5, u_120_6, u_120_6n, u_120_7, u_120_10, u_120_11, u_120_12, u_120_15, u_120_15n, u_120_16, u_120_19, u_120_20, u_120_21, u_120_21n, u_120_22, u_120_25, u_120_26, u_120_27, u_120_30, u_120_31, u_120_34, u_120_35, pm_O_some, pm_w_nil, pm_w_i, pm_w_l, pm_w_r, pm_w_n, pm_c_n, pm_c_i, pm_c_l, pm_c_r, pm_c_u, Nat.reduceAdd, Nat.reduceLeDiff, true_and, Option.toList_some, Option.toList_none, List.cons_append, List.nil_append, n2.f28, a2, ld_i (t := 0) (ix_8 ha) rfl, ld_i (t := 0) (ix_8 hb) rfl, nI_clamp (show a < 2 ^ 31 by omega), nI_clamp (show b < 2 ^ 31 by omega), hu, hu2, if_neg e1, if_neg cl, if_pos (i_nle.mp cl)]
end ALS

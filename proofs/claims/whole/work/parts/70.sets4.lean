/-! raised, count, bearing. -/
/-- may raised answer, and what -/
def VR (jk : Option (Nat × Nat)) (n : Nat) (st b : Int32) : Prop := ∃ a c, jk = some (a, c) ∧ vb n b ∧ 0 ≤ st.toInt ∧ st.toInt ≤ (((a + c - 1) / c * n : Nat) : Int)
def rsv (jk : Option (Nat × Nat)) (n : Nat) (st b : Int32) : Nat := match jk with
  | some q => rsd n q.1 q.2 (ix st) (ix b)
  | none => 0
theorem i10 : ((1 : Int32) = 0) = False := by decide
theorem i00 : ((0 : Int32) = 0) = True := by decide
theorem rt_le {a c n s k : Nat} (hn : 0 < n) (h2 : 1 ≤ c) (hs : s ≤ (a + c - 1) / c * n) : (s / n + if k < s % n then 1 else 0) ≤ (a + c - 1) / c := by
  have t1 : s / n ≤ (a + c - 1) / c := by
    have := Nat.div_le_div_right (c := n) hs
    rw [Nat.mul_div_cancel _ hn] at this
    exact this
  split
  · rename_i z
    rcases Nat.lt_or_ge (s / n) ((a + c - 1) / c) with y | y
    · omega
    · have e1 : s / n = (a + c - 1) / c := by omega
      have t2 := Nat.div_add_mod s n
      rw [e1, Nat.mul_comm] at t2
      omega
  · omega
section SE4
variable {B : Nat} {X : pm_X} {h h' h2 : pm_H} {Q : Option Value → pm_H → Prop} {e lo hi n ln nr nd nl i a : Nat} {bs : Nat → Bg} {tx sz lm ll : Nat → Nat} {tm : Nat → Nat → Tm} {dy : Nat → Int} {jk : Option (Nat × Nat)} {g : Bg} {b x y z ax w st : Int32}
theorem c_raised (n1 : CC B h n bs ln tx nr sz tm nd dy nl lm ll jk) (hg : VR jk n st b → Q (some (.int (nI (rsv jk n st b)))) h) (hb : ¬ VR jk n st b → Q (some (.int (-1))) h) :
    PW B X 85 0 [some (.ref B), some (.int st), some (.int b), none, none, none] [] h Q := by
  obtain ⟨⟨rs, rs2, lw, jh, jm, ra, a1, a2, a3, a4, a5, a6, a7, a8, a9⟩, n2⟩ := n1
  have hn := a3.1
  rcases a9 with ⟨c1, c2⟩ | ⟨aa, bb, c1, c2, c3, c4, c5, c6, c7, c8, c9⟩
  · simp only [u_85_0, u_85_0n, u_85_1, u_85_4, u_85_5, u_85_8, u_85_8n, u_85_9, u_85_12, u_85_15, u_85_16, u_85_17, u_85_17n, u_85_18, u_85_21, u_85_24, u_85_27, u_85_28, u_85_29, u_85_29n, u_85_30, u_85_33, u_85_34, u_85_35, u_85_38, u_85_41, u_85_42, pm_O_some, pm_w_nil, pm_w_i, pm_w_l, pm_w_r, pm_w_n, pm_c_n, pm_c_i, pm_c_l, pm_c_r, pm_c_u, Nat.reduceAdd, Nat.reduceLeDiff, true_and, Option.toList_some, Option.toList_none, List.cons_append, List.nil_append, a1, gf_0_18, if_pos c2]
    refine hb ?_
    rintro ⟨p, q, d, _⟩
    rw [c1] at d
    cases d
  · subst c1
    subst c2
    subst c3
    have hR := rnd_le c5 c6 c7 hn
    have e1 : ¬ ra = -1 := by
      rw [c8]
      intro c
      have := congrArg Int32.toInt c
      rw [nI_toInt (by omega)] at this
      change _ = (-1 : Int) at this
      omega
    have e2 : ¬ nI n = 0 := nI_ne0 c9 (by omega)
    have e3 : ((0 : Int32) ≤ st ∧ st ≤ ra) ↔ (0 ≤ st.toInt ∧ st.toInt ≤ (((aa + bb - 1) / bb * n : Nat) : Int)) := wi rfl (by rw [c8, nI_toInt (by omega)])
    have e4 : ((0 : Int32) ≤ b ∧ b ≤ nI n - 1) ↔ vb n b := by
      rw [i_le, i_le, nI_m1 (by omega)]
      unfold vb
      change (0 ≤ b.toInt ∧ _) ↔ _
      omega
    by_cases v1 : 0 ≤ st.toInt ∧ st.toInt ≤ (((aa + bb - 1) / bb * n : Nat) : Int)
    · by_cases v2 : vb n b
      · have hg2 := hg ⟨aa, bb, rfl, v2, v1⟩
        obtain ⟨k1, k2⟩ := vb_ix v2
        have k3 := nI_ix v1.1
        have k4 := ix_T v1.1
        clear hg
        unfold rsv at hg2
        simp only at hg2
        generalize ix b = i at k1 k2 hg2
        generalize ix st = s at k3 k4 hg2
        have u1 := e3.mpr v1
        have u2 := e4.mpr v2
        clear e3 e4
        subst k1
        subst k3
        have hs : s ≤ (aa + bb - 1) / bb * n := by omega
        have hsn : s % n < n := Nat.mod_lt s c9
        have hdn : s / n ≤ s := Nat.div_le_self _ _
        have hq := rt_le (k := i) c9 c6 hs
        have hq2 : (aa + bb - 1) / bb * bb ≤ aa + bb - 1 := Nat.div_mul_le_self _ _
        have hq3 := Nat.mul_le_mul_right bb hq
        unfold rsd at hg2
        have erem : nI s - nI (s / n * n) = nI (s % n) := by
          rw [← nI_mul, ← nI_div (show s < 2 ^ 31 by omega) c9 (show n < 2 ^ 31 by omega)]
          exact nI_rem (by omega) c9 (by omega)
        simp only [u_85_0, u_85_0n, u_85_1, u_85_4, u_85_5, u_85_8, u_85_8n, u_85_9, u_85_12, u_85_15, u_85_16, u_85_17, u_85_17n, u_85_18, u_85_21, u_85_24, u_85_27, u_85_28, u_85_29, u_85_29n, u_85_30, u_85_33, u_85_34, u_85_35, u_85_38, u_85_41, u_85_42, u_85_43, u_85_44, u_85_44n, u_85_45, u_85_48, u_85_49, u_85_50, u_85_51, u_85_52, u_85_52n, u_85_53, pm_O_some, pm_w_nil, pm_w_i, pm_w_l, pm_w_r, pm_w_n, pm_c_n, pm_c_i, pm_c_l, pm_c_r, pm_c_u, Nat.reduceAdd, Nat.reduceLeDiff, true_and, Option.toList_some, Option.toList_none, List.cons_append, List.nil_append, a1, gf_0_1, gf_0_18, if_neg e1, if_neg e2, e2, not_false_eq_true, s_within, one0, ite_not, if_pos u1, if_pos u2, i10, if_false, nI_div (show s < 2 ^ 31 by omega) c9 (show n < 2 ^ 31 by omega)]
        simp only [u_85_56, e2, not_false_eq_true, true_and, nI_div (show s < 2 ^ 31 by omega) c9 (show n < 2 ^ 31 by omega), nI_mul, erem]
        by_cases f1 : i < s % n
        · rw [if_pos f1] at hg2 hq hq3
          have e5 : ¬ nI (s % n) ≤ nI i := nI_ge f1 (by omega)
          simp only [u_85_57, u_85_60, u_85_61, u_85_64, u_85_65, u_85_67, u_85_69, pm_O_some, pm_w_nil, pm_w_i, pm_w_l, pm_w_r, pm_w_n, pm_c_n, pm_c_i, pm_c_l, pm_c_r, pm_c_u, Nat.reduceAdd, Nat.reduceLeDiff, true_and, Option.toList_some, Option.toList_none, List.cons_append, List.nil_append, if_neg e5, i10, if_false]
          simp only [u_85_72, u_85_73, u_85_74, u_85_75, u_85_78, u_85_79, u_85_81, u_85_83, u_85_83n, u_85_84, u_85_87, pm_O_some, pm_w_nil, pm_w_i, pm_w_l, pm_w_r, pm_w_n, pm_c_n, pm_c_i, pm_c_l, pm_c_r, pm_c_u, Nat.reduceAdd, Nat.reduceLeDiff, true_and, Option.toList_some, Option.toList_none, List.cons_append, List.nil_append, nI_1, a1, gf_0_17, nI_mul]
          simp only [u_85_88, u_85_88n, u_85_89, u_85_92, u_85_95, pm_O_some, pm_w_nil, pm_w_i, pm_w_l, pm_w_r, pm_w_n, pm_c_n, pm_c_i, pm_c_l, pm_c_r, pm_c_u, Nat.reduceAdd, Nat.reduceLeDiff, true_and, Option.toList_some, Option.toList_none, List.cons_append, List.nil_append, a1, gf_0_16]
          by_cases f2 : aa < (s / n + 1) * bb
          · rw [if_pos f2] at hg2
            rw [if_pos (nI_lt f2 (by omega))]
            exact hg2
          · rw [if_neg f2] at hg2
            rw [if_neg (nI_nlt (by omega) (by omega))]
            exact hg2
        · rw [if_neg f1] at hg2 hq hq3
          have e5 : nI (s % n) ≤ nI i := nI_le (by omega) (by omega)
          simp only [u_85_57, u_85_60, u_85_61, u_85_64, u_85_65, u_85_67, u_85_69, pm_O_some, pm_w_nil, pm_w_i, pm_w_l, pm_w_r, pm_w_n, pm_c_n, pm_c_i, pm_c_l, pm_c_r, pm_c_u, Nat.reduceAdd, Nat.reduceLeDiff, true_and, Option.toList_some, Option.toList_none, List.cons_append, List.nil_append, if_pos e5, i00, if_true]
          simp only [u_85_78, u_85_79, u_85_81, u_85_83, u_85_83n, u_85_84, u_85_87, pm_O_some, pm_w_nil, pm_w_i, pm_w_l, pm_w_r, pm_w_n, pm_c_n, pm_c_i, pm_c_l, pm_c_r, pm_c_u, Nat.reduceAdd, Nat.reduceLeDiff, true_and, Option.toList_some, Option.toList_none, List.cons_append, List.nil_append, nI_1, a1, gf_0_17, nI_mul]
          simp only [u_85_88, u_85_88n, u_85_89, u_85_92, u_85_95, pm_O_some, pm_w_nil, pm_w_i, pm_w_l, pm_w_r, pm_w_n, pm_c_n, pm_c_i, pm_c_l, pm_c_r, pm_c_u, Nat.reduceAdd, Nat.reduceLeDiff, true_and, Option.toList_some, Option.toList_none, List.cons_append, List.nil_append, a1, gf_0_16]
          rw [Nat.add_zero] at hg2 hq3
          by_cases f2 : aa < (s / n) * bb
          · rw [if_pos f2] at hg2
            rw [if_pos (nI_lt f2 (by omega))]
            exact hg2
          · rw [if_neg f2] at hg2
            rw [if_neg (nI_nlt (by omega) (by omega))]
            exact hg2
      · simp only [u_85_0, u_85_0n, u_85_1, u_85_4, u_85_5, u_85_8, u_85_8n, u_85_9, u_85_12, u_85_15, u_85_16, u_85_17, u_85_17n, u_85_18, u_85_21, u_85_24, u_85_27, u_85_28, u_85_29, u_85_29n, u_85_30, u_85_33, u_85_34, u_85_35, u_85_38, u_85_41, u_85_42, pm_O_some, pm_w_nil, pm_w_i, pm_w_l, pm_w_r, pm_w_n, pm_c_n, pm_c_i, pm_c_l, pm_c_r, pm_c_u, Nat.reduceAdd, Nat.reduceLeDiff, true_and, Option.toList_some, Option.toList_none, List.cons_append, List.nil_append, a1, gf_0_18, gf_0_1, if_neg e1, if_neg e2, s_within, one0, ite_not, e3, if_pos v1, if_neg (mt e4.mp v2), i10, if_false, i00, if_true]
        refine hb ?_
        rintro ⟨p, q, d, d2, d3⟩
        exact v2 d2
    · simp only [u_85_0, u_85_0n, u_85_1, u_85_4, u_85_5, u_85_8, u_85_8n, u_85_9, u_85_12, u_85_15, u_85_16, u_85_17, u_85_17n, u_85_18, u_85_21, u_85_24, u_85_27, u_85_28, u_85_29, u_85_29n, u_85_30, u_85_33, u_85_34, u_85_35, u_85_38, u_85_41, u_85_42, pm_O_some, pm_w_nil, pm_w_i, pm_w_l, pm_w_r, pm_w_n, pm_c_n, pm_c_i, pm_c_l, pm_c_r, pm_c_u, Nat.reduceAdd, Nat.reduceLeDiff, true_and, Option.toList_some, Option.toList_none, List.cons_append, List.nil_append, a1, gf_0_18, gf_0_1, if_neg e1, if_neg e2, s_within, one0, ite_not, e3, if_neg v1, i00, if_true]
      refine hb ?_
      rintro ⟨p, q, d, d2, d3⟩
      cases d
      exact v1 d3
end SE4

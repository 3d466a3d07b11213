/-! direction. -/
def both (g : Bg) : Prop := ¬ g.2.2.1 = 0 ∧ ¬ g.2.2.2.1 = 0
/-- the first of k bearings that is held along both -/
def fho (bs : Nat → Bg) : Nat → Option Nat
  | 0 => none
  | k + 1 => if (fho bs k).isSome then fho bs k else if (bs k).2.2.1 = 0 then none else if (bs k).2.2.2.1 = 0 then none else some k
theorem fho_some {bs : Nat → Bg} {j : Nat} : ∀ {i : Nat}, fho bs i = some j → ∀ {n : Nat}, i ≤ n → fho bs n = some j := by
  intro i hi n hn
  induction n with
  | zero =>
    obtain rfl : i = 0 := by omega
    exact hi
  | succ n ih =>
    rcases Nat.lt_or_ge n i with z | z
    · obtain rfl : i = n + 1 := by omega
      exact hi
    · have t := ih z
      rw [fho, t]
      rfl
theorem fho_lt {bs : Nat → Bg} {j : Nat} : ∀ {n : Nat}, fho bs n = some j → j < n ∧ both (bs j)
  | 0, h => by cases h
  | n + 1, h => by
    rw [fho] at h
    split at h
    · have := fho_lt h
      exact ⟨by omega, this.2⟩
    · split at h
      · cases h
      · split at h
        · cases h
        · cases h
          exact ⟨by omega, by assumption, by assumption⟩
def fr (o : Option Nat) (B : Nat) : Value := match o with
  | some k => .ref (B + 95 + 8 * k)
  | none => .null
def dirv (d : Int) (g : Nat) : Int32 := Int32.ofInt (d.tdiv g)
-- what direction answers
def dirn (bs : Nat → Bg) (f i : Nat) (ax : Int32) : Int32 :=
  if Nat.gcd ((bs i).1.toInt - (bs f).1.toInt).natAbs ((bs i).2.1.toInt - (bs f).2.1.toInt).natAbs = 0 then 0
  else dirv (if ax = 0 then (bs i).1.toInt - (bs f).1.toInt else (bs i).2.1.toInt - (bs f).2.1.toInt) (Nat.gcd ((bs i).1.toInt - (bs f).1.toInt).natAbs ((bs i).2.1.toInt - (bs f).2.1.toInt).natAbs)
def fo (o : Option Nat) : Nat := match o with
  | some k => k
  | none => 0
section DI
variable {B : Nat} {X : pm_X} {h h' h2 : pm_H} {Q : Option Value → pm_H → Prop} {e lo hi n ln nr nd nl i a k : Nat} {bs : Nat → Bg} {tx sz lm ll : Nat → Nat} {tm : Nat → Nat → Tm} {dy : Nat → Int} {jk : Option (Nat × Nat)} {g : Bg} {b x y z ax w wh pt : Int32} {q : Rat} {tt : Int}
theorem s_fho (n1 : CC B h n bs ln tx nr sz tm nd dy nl lm ll jk) : PW B X 71 0 [some (.ref B), none, none] [] h Q ↔ Q (some (fr (fho bs n) B)) h := by
  have cf := n1.1.cf
  have hn := cf.1
  obtain ⟨rs, rs2, lw, jh, jm, ra, a1⟩ := n1.ob
  have loop : ∀ m i v2, i + m = n → fho bs i = none → (PW B X 71 2 [some (.ref B), some (.int (nI i)), v2] [] h Q ↔ Q (some (fr (fho bs n) B)) h) := by
    intro m
    induction m with
    | zero =>
      intro i v2 hi hf
      obtain rfl : i = n := by omega
      have e1 : nI i ≤ nI i := nI_le (Nat.le_refl _) (by omega)
      rw [hf]
      simp only [u_71_2, u_71_3, u_71_3n, u_71_4, u_71_7, u_71_42, u_71_43, u_71_43n, pm_O_some, pm_w_nil, pm_w_i, pm_w_l, pm_w_r, pm_w_n, pm_c_n, pm_c_i, pm_c_l, pm_c_r, pm_c_u, Nat.reduceAdd, Nat.reduceLeDiff, true_and, Option.toList_some, Option.toList_none, List.cons_append, List.nil_append, a1, gf_0_1, if_pos e1]
      exact Iff.rfl
    | succ m ih =>
      intro i v2 hi hf
      have hin : i < n := by omega
      have e1 : ¬ nI n ≤ nI i := nI_ge hin (by omega)
      obtain ⟨⟨b0, b1⟩, b2⟩ := n1.bev hin
      have nx : fho bs (i + 1) = none → (PW B X 71 36 [some (.ref B), some (.int (nI i)), some (.ref (B + 95 + 8 * i))] [] h Q ↔ Q (some (fr (fho bs n) B)) h) := by
        intro hf2
        simp only [u_71_36, u_71_39, pm_O_some, pm_w_nil, pm_w_i, pm_w_l, pm_w_r, pm_w_n, pm_c_n, pm_c_i, pm_c_l, pm_c_r, pm_c_u, Nat.reduceAdd, Nat.reduceLeDiff, true_and, Option.toList_some, Option.toList_none, List.cons_append, List.nil_append, nI_1]
        exact ih (i + 1) _ (by omega) hf2
      rw [u_71_2]
      by_cases c1 : (bs i).2.2.1 = 0
      · simp only [u_71_3, u_71_3n, u_71_4, u_71_7, u_71_10, u_71_10n, u_71_11, u_71_12, u_71_15, u_71_15n, u_71_16, u_71_16n, u_71_17, u_71_17n, u_71_20, u_71_20n, u_71_21, u_71_24, u_71_27, u_71_27n, u_71_28, u_71_31, u_71_34, u_71_34n, u_71_35, u_71_35n, pm_O_some, pm_w_nil, pm_w_i, pm_w_l, pm_w_r, pm_w_n, pm_c_n, pm_c_i, pm_c_l, pm_c_r, pm_c_u, Nat.reduceAdd, Nat.reduceLeDiff, true_and, Option.toList_some, Option.toList_none, List.cons_append, List.nil_append, a1, gf_0_1, if_neg e1, cf.io, s_find_t cf hin, b0, gf_9_2, if_pos c1]
        exact nx (by rw [fho, hf, if_neg (by decide), if_pos c1])
      · by_cases c2 : (bs i).2.2.2.1 = 0
        · simp only [u_71_3, u_71_3n, u_71_4, u_71_7, u_71_10, u_71_10n, u_71_11, u_71_12, u_71_15, u_71_15n, u_71_16, u_71_16n, u_71_17, u_71_17n, u_71_20, u_71_20n, u_71_21, u_71_24, u_71_27, u_71_27n, u_71_28, u_71_31, u_71_34, u_71_34n, u_71_35, u_71_35n, pm_O_some, pm_w_nil, pm_w_i, pm_w_l, pm_w_r, pm_w_n, pm_c_n, pm_c_i, pm_c_l, pm_c_r, pm_c_u, Nat.reduceAdd, Nat.reduceLeDiff, true_and, Option.toList_some, Option.toList_none, List.cons_append, List.nil_append, a1, gf_0_1, if_neg e1, cf.io, s_find_t cf hin, b0, gf_9_2, gf_9_3, if_neg c1, if_pos c2]
          exact nx (by rw [fho, hf, if_neg (by decide), if_neg c1, if_pos c2])
        · simp only [u_71_3, u_71_3n, u_71_4, u_71_7, u_71_10, u_71_10n, u_71_11, u_71_12, u_71_15, u_71_15n, u_71_16, u_71_16n, u_71_17, u_71_17n, u_71_20, u_71_20n, u_71_21, u_71_24, u_71_27, u_71_27n, u_71_28, u_71_31, u_71_34, u_71_34n, u_71_35, u_71_35n, pm_O_some, pm_w_nil, pm_w_i, pm_w_l, pm_w_r, pm_w_n, pm_c_n, pm_c_i, pm_c_l, pm_c_r, pm_c_u, Nat.reduceAdd, Nat.reduceLeDiff, true_and, Option.toList_some, Option.toList_none, List.cons_append, List.nil_append, a1, gf_0_1, if_neg e1, cf.io, s_find_t cf hin, b0, gf_9_2, gf_9_3, if_neg c1, if_neg c2]
          have hf2 : fho bs (i + 1) = some i := by rw [fho, hf, if_neg (by decide), if_neg c1, if_neg c2]
          rw [fho_some hf2 (by omega : i + 1 ≤ n)]
          exact Iff.rfl
  simp only [u_71_0, u_71_1, pm_O_some, pm_w_nil, pm_w_i, pm_w_l, pm_w_r, pm_w_n, pm_c_n, pm_c_i, pm_c_l, pm_c_r, pm_c_u, Nat.reduceAdd, Nat.reduceLeDiff, true_and, Option.toList_some, Option.toList_none, List.cons_append, List.nil_append]
  exact loop n 0 _ (by omega) rfl
theorem l_div {d : Int} {g : Nat} (h1 : -2 ^ 31 < d) (h2 : d < 2 ^ 31) (h3 : 0 < g) (h4 : g < 2 ^ 31) : (lI d / lN g).toInt32 = dirv d g := by
  have ne : lN g ≠ -1 := by
    intro c
    have := congrArg Int64.toInt c
    rw [pk_lT (by omega)] at this
    change _ = (-1 : Int) at this
    omega
  apply Int32.toInt_inj.mp
  unfold dirv
  rw [Int64.toInt_toInt32, Int64.toInt_div_of_ne_right _ _ ne, lI_T (by omega) (by omega), pk_lT (by omega), Int32.toInt_ofInt]
theorem c_dir (n1 : CC B h n bs ln tx nr sz tm nd dy nl lm ll jk) (hg : vb n b ∧ (ax = 0 ∨ ax = 1) ∧ (fho bs n).isSome → Q (some (.int (dirn bs (fo (fho bs n)) (ix b) ax))) h) (hb : ¬ (vb n b ∧ (ax = 0 ∨ ax = 1) ∧ (fho bs n).isSome) → Q (some (.int (-1))) h) :
    PW B X 70 0 [some (.ref B), some (.int b), some (.int ax), none, none, none, none, none, none] [] h Q := by
  have cf := n1.1.cf
  have hn := cf.1
  have e5 : ((0 : Int32) ≤ ax ∧ ax ≤ 1) ↔ (ax = 0 ∨ ax = 1) := by
    rw [i_le, i_le, ← Int32.toInt_inj, ← Int32.toInt_inj]
    show ((0 : Int) ≤ ax.toInt ∧ ax.toInt ≤ 1) ↔ (ax.toInt = 0 ∨ ax.toInt = 1)
    omega
  by_cases h1 : vb n b
  · obtain ⟨e1, e2⟩ := vb_ix h1
    generalize ix b = i at hg e1 e2
    subst e1
    cases hf : fho bs n with
    | none =>
      simp only [u_70_0, u_70_0n, u_70_1, u_70_2, u_70_5, u_70_5n, u_70_6, u_70_6n, u_70_7, u_70_10, u_70_10n, u_70_12, u_70_12n, u_70_13, u_70_13n, u_70_16, u_70_16n, u_70_18, u_70_18n, u_70_21, u_70_22, u_70_23, u_70_24, u_70_27, u_70_30, u_70_31, pm_O_some, pm_w_nil, pm_w_i, pm_w_l, pm_w_r, pm_w_n, pm_c_n, pm_c_i, pm_c_l, pm_c_r, pm_c_u, Nat.reduceAdd, Nat.reduceLeDiff, true_and, Option.toList_some, Option.toList_none, List.cons_append, List.nil_append, cf.io, s_find_t cf e2, s_fho n1, hf, fr]
      exact hb (fun c => by rw [hf] at c; exact absurd c.2.2 (by decide))
    | some f =>
      obtain ⟨hfn, -⟩ := fho_lt hf
      by_cases h2 : ax = 0 ∨ ax = 1
      · have hg2 := hg ⟨h1, h2, by rw [hf]; rfl⟩
        rw [hf] at hg2
        change Q (some (.int (dirn bs f i ax))) h at hg2
        obtain ⟨⟨b0, b1⟩, b2⟩ := n1.bev e2
        obtain ⟨⟨c0, c1⟩, c2⟩ := n1.bev hfn
        have q1 := b2.1
        have q2 := b2.2.1
        have q3 := c2.1
        have q4 := c2.2.1
        have d1 : ((bs i).1 - (bs f).1).toInt = (bs i).1.toInt - (bs f).1.toInt := i_sub (by omega) (by omega)
        have d2 : ((bs i).2.1 - (bs f).2.1).toInt = (bs i).2.1.toInt - (bs f).2.1.toInt := i_sub (by omega) (by omega)
        have d3 := i_abs (x := (bs i).1 - (bs f).1) (by omega)
        have d4 := i_abs (x := (bs i).2.1 - (bs f).2.1) (by omega)
        unfold dirn at hg2
        generalize hD : (bs i).1.toInt - (bs f).1.toInt = D at d1 hg2
        generalize hE : (bs i).2.1.toInt - (bs f).2.1.toInt = E at d2 hg2
        rw [d1] at d3
        rw [d2] at d4
        simp only [u_70_0, u_70_0n, u_70_1, u_70_2, u_70_5, u_70_5n, u_70_6, u_70_6n, u_70_7, u_70_10, u_70_10n, u_70_12, u_70_12n, u_70_13, u_70_13n, u_70_16, u_70_16n, u_70_18, u_70_18n, u_70_21, u_70_22, u_70_23, u_70_24, u_70_27, u_70_30, u_70_31, u_70_32, u_70_32n, u_70_33, u_70_36, u_70_36n, u_70_38, u_70_41, u_70_42, u_70_44, u_70_44n, u_70_45, u_70_48, u_70_48n, u_70_50, u_70_53, u_70_54, u_70_56, u_70_58, u_70_61, u_70_62, u_70_64, u_70_67, pm_O_some, pm_w_nil, pm_w_i, pm_w_l, pm_w_r, pm_w_n, pm_c_n, pm_c_i, pm_c_l, pm_c_r, pm_c_u, Nat.reduceAdd, Nat.reduceLeDiff, true_and, Option.toList_some, Option.toList_none, List.cons_append, List.nil_append, cf.io, s_find_t cf e2, s_fho n1, hf, fr, s_within, one0, ite_not, if_pos (e5.mpr h2), i10, if_false, b0, c0, gf_9_0, gf_9_1, d3, d4, nI_l (show D.natAbs < 2 ^ 31 by omega), nI_l (show E.natAbs < 2 ^ 31 by omega)]
        simp only [u_70_68, pm_O_some, pm_w_nil, pm_w_i, pm_w_l, pm_w_r, pm_w_n, pm_c_n, pm_c_i, pm_c_l, pm_c_r, pm_c_u, Nat.reduceAdd, Nat.reduceLeDiff, true_and, Option.toList_some, Option.toList_none, List.cons_append, List.nil_append]
        rw [c_gcd (by omega) (by omega)]
        have hgl : Nat.gcd D.natAbs E.natAbs < 2 ^ 31 := by
          by_cases z : D.natAbs = 0
          · rw [z, Nat.gcd_zero_left]
            omega
          · have := Nat.gcd_le_left E.natAbs (Nat.pos_of_ne_zero z)
            omega
        generalize Nat.gcd D.natAbs E.natAbs = gg at hg2 hgl
        by_cases z : gg = 0
        · rw [if_pos z] at hg2
          have z1 : lN gg = 0 := by rw [z]; rfl
          simp only [u_70_71, u_70_73, u_70_75, u_70_76, u_70_77, u_70_80, u_70_81, pm_O_some, pm_w_nil, pm_w_i, pm_w_l, pm_w_r, pm_w_n, pm_c_n, pm_c_i, pm_c_l, pm_c_r, pm_c_u, Nat.reduceAdd, Nat.reduceLeDiff, true_and, Option.toList_some, Option.toList_none, List.cons_append, List.nil_append, lg_cmp_eq, z1, not_true, if_false]
          exact hg2
        · rw [if_neg z] at hg2
          have z1 : ¬ lN gg = 0 := l_ne0 (by omega) (by omega)
          rcases h2 with y | y
          · subst y
            rw [if_pos rfl] at hg2
            simp only [u_70_71, u_70_73, u_70_75, u_70_76, u_70_77, u_70_80, u_70_81, u_70_82, u_70_83, u_70_86, u_70_88, u_70_91, u_70_93, u_70_94, u_70_96, u_70_97, u_70_98, pm_O_some, pm_w_nil, pm_w_i, pm_w_l, pm_w_r, pm_w_n, pm_c_n, pm_c_i, pm_c_l, pm_c_r, pm_c_u, Nat.reduceAdd, Nat.reduceLeDiff, true_and, Option.toList_some, Option.toList_none, List.cons_append, List.nil_append, lg_cmp_eq, z1, not_false_eq_true, if_true, i00, not_true, if_false, iL, d1, l_div (show -2 ^ 31 < D by omega) (show D < 2 ^ 31 by omega) (show 0 < gg by omega) hgl]
            exact hg2
          · subst y
            rw [if_neg (by decide)] at hg2
            simp only [u_70_71, u_70_73, u_70_75, u_70_76, u_70_77, u_70_80, u_70_81, u_70_82, u_70_83, u_70_86, u_70_88, u_70_91, u_70_93, u_70_94, u_70_96, u_70_97, u_70_98, pm_O_some, pm_w_nil, pm_w_i, pm_w_l, pm_w_r, pm_w_n, pm_c_n, pm_c_i, pm_c_l, pm_c_r, pm_c_u, Nat.reduceAdd, Nat.reduceLeDiff, true_and, Option.toList_some, Option.toList_none, List.cons_append, List.nil_append, lg_cmp_eq, z1, not_false_eq_true, if_true, i10, iL, d2, l_div (show -2 ^ 31 < E by omega) (show E < 2 ^ 31 by omega) (show 0 < gg by omega) hgl]
            exact hg2
      · simp only [u_70_0, u_70_0n, u_70_1, u_70_2, u_70_5, u_70_5n, u_70_6, u_70_6n, u_70_7, u_70_10, u_70_10n, u_70_12, u_70_12n, u_70_13, u_70_13n, u_70_16, u_70_16n, u_70_18, u_70_18n, u_70_21, u_70_22, u_70_23, u_70_24, u_70_27, u_70_30, u_70_31, pm_O_some, pm_w_nil, pm_w_i, pm_w_l, pm_w_r, pm_w_n, pm_c_n, pm_c_i, pm_c_l, pm_c_r, pm_c_u, Nat.reduceAdd, Nat.reduceLeDiff, true_and, Option.toList_some, Option.toList_none, List.cons_append, List.nil_append, cf.io, s_find_t cf e2, s_fho n1, hf, fr, s_within, one0, ite_not, if_neg (mt e5.mp h2), i00, if_true]
        exact hb (fun c => h2 c.2.1)
  · simp only [u_70_0, u_70_0n, u_70_1, u_70_2, u_70_5, u_70_5n, u_70_6, u_70_6n, u_70_7, u_70_10, u_70_10n, pm_O_some, pm_w_nil, pm_w_i, pm_w_l, pm_w_r, pm_w_n, pm_c_n, pm_c_i, pm_c_l, pm_c_r, pm_c_u, Nat.reduceAdd, Nat.reduceLeDiff, true_and, Option.toList_some, Option.toList_none, List.cons_append, List.nil_append, cf.io, s_find_f cf h1, s_fho n1]
    cases hf : fho bs n with
    | none =>
      simp only [u_70_10, u_70_10n, u_70_12, u_70_12n, u_70_13, u_70_13n, u_70_16, u_70_16n, u_70_18, u_70_18n, u_70_21, u_70_22, u_70_23, u_70_24, u_70_27, u_70_30, u_70_31, pm_O_some, pm_w_nil, pm_w_i, pm_w_l, pm_w_r, pm_w_n, pm_c_n, pm_c_i, pm_c_l, pm_c_r, pm_c_u, Nat.reduceAdd, Nat.reduceLeDiff, true_and, Option.toList_some, Option.toList_none, List.cons_append, List.nil_append, fr]
      exact hb (fun c => h1 c.1)
    | some f =>
      simp only [u_70_10, u_70_10n, u_70_12, u_70_12n, u_70_13, u_70_13n, u_70_16, u_70_16n, u_70_18, u_70_18n, u_70_21, u_70_22, u_70_23, u_70_24, u_70_27, u_70_30, u_70_31, pm_O_some, pm_w_nil, pm_w_i, pm_w_l, pm_w_r, pm_w_n, pm_c_n, pm_c_i, pm_c_l, pm_c_r, pm_c_u, Nat.reduceAdd, Nat.reduceLeDiff, true_and, Option.toList_some, Option.toList_none, List.cons_append, List.nil_append, fr]
      exact hb (fun c => h1 c.1)
end DI

/-! THE CALLS THAT ASK: sum, caseOf, gap, travel. -/
-- the sums of the rules for a bearing and an axis, all turned to one side; least and greatest
def rv (g : Bg) (sz : Nat → Nat) (tm : Nat → Nat → Tm) (ax : Nat) (sd : Int) : Nat → Rat := fun k => rq (tm k) (fun i => g.2.2.2.2.1 i ax) (fun i => g.2.2.2.2.2.1 i ax) sd (sz k)
def GM (g : Bg) (nr : Nat) (sz : Nat → Nat) (tm : Nat → Nat → Tm) (ax : Nat) : Rat × Int32 := gmx (rv g sz tm ax 1) nr
def LM (g : Bg) (nr : Nat) (sz : Nat → Nat) (tm : Nat → Nat → Tm) (ax : Nat) : Rat × Int32 := gmn (rv g sz tm ax (-1)) nr
-- a part of a fraction
def prt (q : Rat) (p : Int32) : Int64 := if p = -1 then (sg q.num).toInt64 else lN (if ix p % 2 = 0 then d18 q.num.natAbs (ix p / 2) else d18 q.den (ix p / 2))
def wrg (p : Int32) : Int64 := if p = -1 then -2 else -1
-- the way of a joint
def fw (g : Bg) (w : Int) : Int := 12 * g.2.2.2.2.2.2.1.toInt * w
def fg (g : Bg) (w : Int) : Int := 10000 * g.2.2.2.2.2.2.2.1.toInt - fw g (w - g.2.2.2.2.2.2.2.2.toInt)
theorem lI_sub (a b : Int) : lI a - lI b = lI (a - b) := (Int64.ofInt_sub a b).symm
theorem l12 : (12 : Int64) = lI 12 := rfl
theorem l10k : (10000 : Int64) = lI 10000 := rfl
theorem l10m : (10000000 : Int64) = lN 10000000 := rfl
theorem i_m1 {p : Int32} : ((-1 : Int32) ≤ p) ↔ (-1 ≤ p.toInt) := i_le
theorem p_cases {p : Int32} (h : -1 ≤ p.toInt) : p = -1 ∨ (¬ p = -1 ∧ 0 ≤ p.toInt) := by
  by_cases z : p = -1
  · exact Or.inl z
  · refine Or.inr ⟨z, ?_⟩
    have : ¬ p.toInt = -1 := fun c => z (Int32.toInt_inj.mp c)
    omega
section AS
variable {B : Nat} {X : pm_X} {h h' h2 : pm_H} {Q : Option Value → pm_H → Prop} {e lo hi n ln nr nd nl i a k : Nat} {bs : Nat → Bg} {tx sz lm ll : Nat → Nat} {tm : Nat → Nat → Tm} {dy : Nat → Int} {jk : Option (Nat × Nat)} {g : Bg} {b x y z ax w wh pt : Int32} {q : Rat} {tt : Int}
theorem c_partQ (n1 : FracQ B h k q) (hp : -1 ≤ pt.toInt) : PW B X 61 0 [some (.ref k), some (.int pt)] [] h Q ↔ Q (some (.long (prt q pt))) h := by
  rcases p_cases hp with z | ⟨z1, z2⟩
  · subst z
    rw [c_fsign n1]
    rfl
  · have e1 := nI_ix z2
    have e2 := ix_T z2
    have e3 := pt.toInt_lt
    unfold prt
    rw [if_neg z1]
    generalize ix pt = j at e1 e2
    subst e1
    exact c_fpart n1 (by omega)
/-- the working room after a change of the extremes alone -/
theorem CW.ex {lq gq : Rat} {lc gc : Int32} (n1 : CW B h) (F : Frm B h h' (B + 17) (B + 48)) (n2 : ExR B h' (B + 17) lq lc gq gc) : CW B h' := by
  obtain ⟨⟨t, g, rb, rt, h1⟩, h2, ⟨s, U, L, h3⟩, ⟨fb, h4, h5⟩, ⟨s1, U1, L1, h6⟩, ⟨s2, U2, L2, h7⟩, ⟨s3, U3, L3, h8⟩⟩ := n1
  exact ⟨⟨t, g, rb, rt, by rw [F.2.2 _ (by omega)]; exact h1⟩, ⟨lq, lc, gq, gc, n2⟩, ⟨s, U, L, h3.frm F (by omega)⟩, ⟨fb, by rw [F.2.2 _ (by omega)]; exact h4, h5⟩, ⟨s1, U1, L1, h6.frm F (by omega)⟩, ⟨s2, U2, L2, h7.frm F (by omega)⟩, ⟨s3, U3, L3, h8.frm F (by omega)⟩⟩
theorem CW.sp {s : Int32} {U L : Nat} (n1 : CW B h) (F : Frm B h h' (B + 48) (B + 53)) (n2 : FracV B h' (B + 48) s U L) : CW B h' := by
  obtain ⟨⟨t, g, rb, rt, h1⟩, ⟨lq, lc, gq, gc, h2⟩, h3, ⟨fb, h4, h5⟩, ⟨s1, U1, L1, h6⟩, ⟨s2, U2, L2, h7⟩, ⟨s3, U3, L3, h8⟩⟩ := n1
  exact ⟨⟨t, g, rb, rt, by rw [F.2.2 _ (by omega)]; exact h1⟩, ⟨lq, lc, gq, gc, h2.frm F (by omega)⟩, ⟨_, _, _, n2⟩, ⟨fb, by rw [F.2.2 _ (by omega)]; exact h4, h5⟩, ⟨s1, U1, L1, h6.frm F (by omega)⟩, ⟨s2, U2, L2, h7.frm F (by omega)⟩, ⟨s3, U3, L3, h8.frm F (by omega)⟩⟩
/-- reckon, as the calls call it -/
theorem c_reck {r : Nat} (n1 : CC B h n bs ln tx nr sz tm nd dy nl lm ll jk) (hr : ∃ (f0 f1 f2 f3 f5 f6 f7 f8 f9 f10 f11 f12 f13 f14 f15 f16 f17 f18 : Value), pm_at B h B = some (.inr (0, [f0, f1, f2, f3, .ref r, f5, f6, f7, f8, f9, f10, f11, f12, f13, f14, f15, f16, f17, f18]))) (hi : i < n) (hk : k < 3)
    (hQ : ∀ h', CC B h' n bs ln tx nr sz tm nd dy nl lm ll jk → ExR B h' (B + 17) (LM (bs i) nr sz tm k).1 (LM (bs i) nr sz tm k).2 (GM (bs i) nr sz tm k).1 (GM (bs i) nr sz tm k).2 → Frm B h h' (B + 17) (B + 48) → Q none h') :
    PW B X 36 0 [some (.ref (B + 22)), some (.ref r), some (.ref (B + 95 + 8 * i)), some (.int (nI k)), none] [] h Q := by
  have n0 := n1
  obtain ⟨⟨rs, rs2, lw, jh, jm, ra, a1, a2, a3, a4, a5, a6, a7, a8, a9⟩, n2⟩ := n1
  obtain ⟨f0, f1, f2, f3, f5, f6, f7, f8, f9, f10, f11, f12, f13, f14, f15, f16, f17, f18, hr⟩ := hr
  have w1 : (B + 5 ≤ rs ∧ rs ≤ B + 11) ∧ (B + 5 ≤ rs2 ∧ rs2 ≤ B + 11) := by rcases a2 with ⟨z1, z2⟩ | ⟨z1, z2⟩ <;> omega
  obtain rfl : rs = r := by
    rw [a1] at hr
    have t := congrArg (fun o => pm_gf o 0 4) hr
    simp only [gf_0_4, Option.some.injEq, Value.ref.injEq] at t
    exact t
  obtain ⟨lq, lc, gq, gc, x1⟩ := n2.2.1
  refine c_reckon (e := B + 17) x1 a5 (n0.bev hi).1 hk (by omega) (by omega) (fun h' y1 y2 => ?_)
  exact hQ h' ⟨n0.1.frm y2 (by omega), n2.ex y2 y1⟩ y1 y2
theorem CC.ob (n1 : CC B h n bs ln tx nr sz tm nd dy nl lm ll jk) : ∃ (rs rs2 : Nat) (lw jh jm ra : Int32), pm_at B h B = some (.inr (0, [.ref (B + 1), .int (nI n), .ref (B + 2), .ref (B + 3), .ref rs, .ref rs2, .ref (B + 17), .ref (B + 22), .ref (B + 48), .ref (B + 53), .int (nI nd), .int lw, .long (lN (wy dy nd)), .ref (B + 69), .ref (B + 70), .int (nI nl), .int jh, .int jm, .int ra])) := by
  obtain ⟨⟨rs, rs2, lw, jh, jm, ra, a1, _⟩, n2⟩ := n1
  exact ⟨rs, rs2, lw, jh, jm, ra, a1⟩
theorem c_sum (n1 : CC B h n bs ln tx nr sz tm nd dy nl lm ll jk) (hg : vb n b ∧ (0 ≤ ax.toInt ∧ ax.toInt ≤ 2) ∧ (0 ≤ wh.toInt ∧ wh.toInt ≤ 2) ∧ -1 ≤ pt.toInt → ∀ h', CC B h' n bs ln tx nr sz tm nd dy nl lm ll jk → Kp B h h' → Q (some (.long (prt (wq (LM (bs (ix b)) nr sz tm (ix ax)).1 (GM (bs (ix b)) nr sz tm (ix ax)).1 (ix wh)) pt))) h')
    (hb : ¬ (vb n b ∧ (0 ≤ ax.toInt ∧ ax.toInt ≤ 2) ∧ (0 ≤ wh.toInt ∧ wh.toInt ≤ 2) ∧ -1 ≤ pt.toInt) → Q (some (.long (wrg pt))) h) :
    PW B X 34 0 [some (.ref B), some (.int b), some (.int ax), some (.int wh), some (.int pt), none] [] h Q := by
  have cf := n1.1.cf
  obtain ⟨rs, rs2, lw, jh, jm, ra, a1⟩ := n1.ob
  by_cases h1 : vb n b
  · obtain ⟨e1, e2⟩ := vb_ix h1
    generalize ix b = i at hg e1 e2
    subst e1
    by_cases hV : (0 ≤ ax.toInt ∧ ax.toInt ≤ 2) ∧ (0 ≤ wh.toInt ∧ wh.toInt ≤ 2) ∧ -1 ≤ pt.toInt
    · have hg2 := hg ⟨h1, hV⟩
      clear hg
      obtain ⟨v1, v2, v3⟩ := hV
      have k1 := nI_ix v1.1
      have k2 := ix_T v1.1
      generalize ix ax = kk at hg2 k1 k2
      have k3 := nI_ix v2.1
      have k4 := ix_T v2.1
      generalize ix wh = ww at hg2 k3 k4
      subst k1
      subst k3
      have x0 := n1.2.2.1
      obtain ⟨lq, lc, gq, gc, x1⟩ := x0
      simp only [u_34_0, u_34_0n, u_34_1, u_34_2, u_34_5, u_34_5n, u_34_7, u_34_7n, u_34_9, u_34_9n, u_34_12, u_34_13, u_34_16, u_34_19, u_34_20, u_34_21, u_34_22, u_34_25, u_34_28, u_34_30, u_34_31, u_34_34, u_34_36, u_34_39, u_34_40, u_34_40n, u_34_41, u_34_44, u_34_44n, u_34_45, u_34_48, u_34_48n, u_34_50, u_34_51, pm_O_some, pm_w_nil, pm_w_i, pm_w_l, pm_w_r, pm_w_n, pm_c_n, pm_c_i, pm_c_l, pm_c_r, pm_c_u, Nat.reduceAdd, Nat.reduceLeDiff, true_and, Option.toList_some, Option.toList_none, List.cons_append, List.nil_append, cf.io, s_find_t cf e2, s_within, s_axis, one0, ite_not, w_axis, if_pos v1, if_pos v2, i10, if_false, i_m1, if_pos v3, a1, gf_0_7, gf_0_4, pm_io_of x1.1]
      refine c_reck n1 ⟨_, _, _, _, _, _, _, _, _, _, _, _, _, _, _, _, _, _, a1⟩ e2 (by omega) (fun hA y1 y2 y3 => ?_)
      have t1 := (y3.2.2 B (by omega)).trans a1
      simp only [u_34_54, u_34_54n, u_34_55, u_34_58, u_34_59, pm_O_some, pm_w_nil, pm_w_i, pm_w_l, pm_w_r, pm_w_n, pm_c_n, pm_c_i, pm_c_l, pm_c_r, pm_c_u, Nat.reduceAdd, Nat.reduceLeDiff, true_and, Option.toList_some, Option.toList_none, List.cons_append, List.nil_append, t1, gf_0_7, pm_io_of y2.1]
      refine c_chosen (e := B + 17) y2 (by omega) (fun hB p hp z1 z2 z3 => ?_)
      simp only [u_34_62, u_34_64, pm_O_some, pm_w_nil, pm_w_i, pm_w_l, pm_w_r, pm_w_n, pm_c_n, pm_c_i, pm_c_l, pm_c_r, pm_c_u, Nat.reduceAdd, Nat.reduceLeDiff, true_and, Option.toList_some, Option.toList_none, List.cons_append, List.nil_append, FracV.io z1]
      rw [c_partQ z1 v3]
      simp only [u_34_67, pm_O_some, pm_w_nil, pm_w_i, pm_w_l, pm_w_r, pm_w_n, pm_c_n, pm_c_i, pm_c_l, pm_c_r, pm_c_u, Nat.reduceAdd, Nat.reduceLeDiff, true_and, Option.toList_some, Option.toList_none, List.cons_append, List.nil_append]
      exact hg2 hB ⟨y1.1.frm z3 (by omega), y1.2.ex z3 z2⟩ ((Kp.of y3 (by omega)).trans (Kp.of z3 (by omega)))
    · simp only [u_34_0, u_34_0n, u_34_1, u_34_2, u_34_5, u_34_5n, u_34_7, u_34_7n, u_34_9, u_34_9n, u_34_12, u_34_13, u_34_16, u_34_19, u_34_20, u_34_21, u_34_22, u_34_25, u_34_28, u_34_30, u_34_31, pm_O_some, pm_w_nil, pm_w_i, pm_w_l, pm_w_r, pm_w_n, pm_c_n, pm_c_i, pm_c_l, pm_c_r, pm_c_u, Nat.reduceAdd, Nat.reduceLeDiff, true_and, Option.toList_some, Option.toList_none, List.cons_append, List.nil_append, cf.io, s_find_t cf e2, s_within, s_axis, one0, ite_not, w_axis, i_m1]
      have hb := hb (fun c => hV c.2)
      repeat' split
      all_goals first | (simp only [u_34_34, u_34_36, u_34_39, pm_O_some, pm_w_nil, pm_w_i, pm_w_l, pm_w_r, pm_w_n, pm_c_n, pm_c_i, pm_c_l, pm_c_r, pm_c_u, Nat.reduceAdd, Nat.reduceLeDiff, true_and, Option.toList_some, Option.toList_none, List.cons_append, List.nil_append, s_wrong]; exact hb) | exact absurd ⟨by assumption, by assumption, by assumption⟩ hV
  · simp only [u_34_0, u_34_0n, u_34_1, u_34_2, u_34_5, u_34_5n, u_34_7, u_34_7n, u_34_9, u_34_9n, u_34_12, u_34_13, u_34_16, u_34_19, u_34_20, u_34_21, u_34_22, u_34_25, u_34_28, u_34_30, u_34_31, u_34_34, u_34_36, u_34_39, pm_O_some, pm_w_nil, pm_w_i, pm_w_l, pm_w_r, pm_w_n, pm_c_n, pm_c_i, pm_c_l, pm_c_r, pm_c_u, Nat.reduceAdd, Nat.reduceLeDiff, true_and, Option.toList_some, Option.toList_none, List.cons_append, List.nil_append, cf.io, s_find_f cf h1, s_wrong]
    exact hb (fun c => h1 c.1)
theorem w_01 {x : Int32} : ((0 : Int32) ≤ x ∧ x ≤ 1) ↔ (0 ≤ x.toInt ∧ x.toInt ≤ 1) := wi rfl rfl
theorem c_caseOf (n1 : CC B h n bs ln tx nr sz tm nd dy nl lm ll jk) (hg : vb n b ∧ (0 ≤ ax.toInt ∧ ax.toInt ≤ 2) ∧ (0 ≤ wh.toInt ∧ wh.toInt ≤ 1) → ∀ h', CC B h' n bs ln tx nr sz tm nd dy nl lm ll jk → Kp B h h' → Q (some (.int (if wh = 0 then (LM (bs (ix b)) nr sz tm (ix ax)).2 else (GM (bs (ix b)) nr sz tm (ix ax)).2))) h')
    (hb : ¬ (vb n b ∧ (0 ≤ ax.toInt ∧ ax.toInt ≤ 2) ∧ (0 ≤ wh.toInt ∧ wh.toInt ≤ 1)) → Q (some (.int (-1))) h) :
    PW B X 63 0 [some (.ref B), some (.int b), some (.int ax), some (.int wh), none] [] h Q := by
  have cf := n1.1.cf
  obtain ⟨rs, rs2, lw, jh, jm, ra, a1⟩ := n1.ob
  by_cases h1 : vb n b
  · obtain ⟨e1, e2⟩ := vb_ix h1
    generalize ix b = i at hg e1 e2
    subst e1
    by_cases hV : (0 ≤ ax.toInt ∧ ax.toInt ≤ 2) ∧ (0 ≤ wh.toInt ∧ wh.toInt ≤ 1)
    · have hg2 := hg ⟨h1, hV⟩
      clear hg
      obtain ⟨v1, v2⟩ := hV
      have k1 := nI_ix v1.1
      have k2 := ix_T v1.1
      generalize ix ax = kk at hg2 k1 k2
      subst k1
      have x0 := n1.2.2.1
      obtain ⟨lq, lc, gq, gc, x1⟩ := x0
      simp only [u_63_0, u_63_0n, u_63_1, u_63_2, u_63_5, u_63_5n, u_63_7, u_63_7n, u_63_9, u_63_9n, u_63_12, u_63_13, u_63_16, u_63_19, u_63_20, u_63_21, u_63_22, u_63_25, u_63_28, u_63_29, u_63_30, u_63_30n, u_63_31, u_63_34, u_63_34n, u_63_35, u_63_38, u_63_38n, u_63_40, u_63_41, pm_O_some, pm_w_nil, pm_w_i, pm_w_l, pm_w_r, pm_w_n, pm_c_n, pm_c_i, pm_c_l, pm_c_r, pm_c_u, Nat.reduceAdd, Nat.reduceLeDiff, true_and, Option.toList_some, Option.toList_none, List.cons_append, List.nil_append, cf.io, s_find_t cf e2, s_within, s_axis, one0, ite_not, w_axis, w_01, if_pos v1, if_pos v2, i10, if_false, a1, gf_0_7, gf_0_4, pm_io_of x1.1]
      refine c_reck n1 ⟨_, _, _, _, _, _, _, _, _, _, _, _, _, _, _, _, _, _, a1⟩ e2 (by omega) (fun hA y1 y2 y3 => ?_)
      have t1 := (y3.2.2 B (by omega)).trans a1
      have t2 := y2.1
      by_cases hw : wh = 0
      · rw [if_pos hw] at hg2
        simp only [u_63_44, u_63_45, u_63_48, u_63_48n, u_63_49, u_63_52, u_63_55, u_63_58, u_63_58n, u_63_59, u_63_62, u_63_65, pm_O_some, pm_w_nil, pm_w_i, pm_w_l, pm_w_r, pm_w_n, pm_c_n, pm_c_i, pm_c_l, pm_c_r, pm_c_u, Nat.reduceAdd, Nat.reduceLeDiff, true_and, Option.toList_some, Option.toList_none, List.cons_append, List.nil_append, hw, not_true, if_false, t1, gf_0_7, t2, gf_6_5]
        exact hg2 hA y1 (Kp.of y3 (by omega))
      · rw [if_neg hw] at hg2
        simp only [u_63_44, u_63_45, u_63_48, u_63_48n, u_63_49, u_63_52, u_63_55, u_63_58, u_63_58n, u_63_59, u_63_62, u_63_65, pm_O_some, pm_w_nil, pm_w_i, pm_w_l, pm_w_r, pm_w_n, pm_c_n, pm_c_i, pm_c_l, pm_c_r, pm_c_u, Nat.reduceAdd, Nat.reduceLeDiff, true_and, Option.toList_some, Option.toList_none, List.cons_append, List.nil_append, hw, not_false_eq_true, if_true, t1, gf_0_7, t2, gf_6_6]
        exact hg2 hA y1 (Kp.of y3 (by omega))
    · simp only [u_63_0, u_63_0n, u_63_1, u_63_2, u_63_5, u_63_5n, u_63_7, u_63_7n, u_63_9, u_63_9n, u_63_12, u_63_13, u_63_16, u_63_19, u_63_20, u_63_21, u_63_22, u_63_25, pm_O_some, pm_w_nil, pm_w_i, pm_w_l, pm_w_r, pm_w_n, pm_c_n, pm_c_i, pm_c_l, pm_c_r, pm_c_u, Nat.reduceAdd, Nat.reduceLeDiff, true_and, Option.toList_some, Option.toList_none, List.cons_append, List.nil_append, cf.io, s_find_t cf e2, s_within, s_axis, one0, ite_not, w_axis, w_01]
      have hb := hb (fun c => hV c.2)
      repeat' split
      all_goals first | (simp only [u_63_28, u_63_29, pm_O_some, pm_w_nil, pm_w_i, pm_w_l, pm_w_r, pm_w_n, pm_c_n, pm_c_i, pm_c_l, pm_c_r, pm_c_u, Nat.reduceAdd, Nat.reduceLeDiff, true_and, Option.toList_some, Option.toList_none, List.cons_append, List.nil_append]; exact hb) | exact absurd ⟨by assumption, by assumption⟩ hV
  · simp only [u_63_0, u_63_0n, u_63_1, u_63_2, u_63_5, u_63_5n, u_63_7, u_63_7n, u_63_9, u_63_9n, u_63_12, u_63_13, u_63_16, u_63_19, u_63_20, u_63_21, u_63_22, u_63_25, u_63_28, u_63_29, pm_O_some, pm_w_nil, pm_w_i, pm_w_l, pm_w_r, pm_w_n, pm_c_n, pm_c_i, pm_c_l, pm_c_r, pm_c_u, Nat.reduceAdd, Nat.reduceLeDiff, true_and, Option.toList_some, Option.toList_none, List.cons_append, List.nil_append, cf.io, s_find_f cf h1]
    exact hb (fun c => h1 c.1)
theorem c_fway (n1 : BeG B h k g) : PW B X 76 0 [some (.ref k), some (.long (lI tt)), none] [] h Q ↔ Q (some (.long (lI (fw g tt)))) h := by
  have b0 := n1.1
  simp only [u_76_0, u_76_3, u_76_3n, u_76_4, u_76_7, u_76_8, u_76_9, u_76_10, u_76_11, pm_O_some, pm_w_nil, pm_w_i, pm_w_l, pm_w_r, pm_w_n, pm_c_n, pm_c_i, pm_c_l, pm_c_r, pm_c_u, Nat.reduceAdd, Nat.reduceLeDiff, true_and, Option.toList_some, Option.toList_none, List.cons_append, List.nil_append, b0, gf_9_6, iL, l12, lI_mul]
  rfl
theorem c_fgap (n1 : BeG B h k g) (n2 : bgok g) (hw : -600 ≤ w.toInt ∧ w.toInt ≤ 900) : PW B X 75 0 [some (.ref k), some (.int w)] [] h Q ↔ Q (some (.long (lI (fg g w.toInt)))) h := by
  have b0 := n1.1
  have hj := n2.2.2.2.2.2.2
  have e1 : (w - g.2.2.2.2.2.2.2.2).toInt = w.toInt - g.2.2.2.2.2.2.2.2.toInt := i_sub (by omega) (by omega)
  simp only [u_75_0, u_75_3, u_75_3n, u_75_4, u_75_7, u_75_8, u_75_9, u_75_9n, u_75_10, u_75_11, u_75_11n, u_75_12, u_75_15, u_75_16, u_75_17, u_75_20, u_75_21, pm_O_some, pm_w_nil, pm_w_i, pm_w_l, pm_w_r, pm_w_n, pm_c_n, pm_c_i, pm_c_l, pm_c_r, pm_c_u, Nat.reduceAdd, Nat.reduceLeDiff, true_and, Option.toList_some, Option.toList_none, List.cons_append, List.nil_append, b0, gf_9_7, gf_9_8, iL, e1, pm_io_of b0, c_fway n1, l10k, lI_mul, lI_sub]
  rfl
theorem fw_b {g : Bg} {w : Int} (h1 : 0 ≤ g.2.2.2.2.2.2.1.toInt ∧ g.2.2.2.2.2.2.1.toInt ≤ 1000000) (h2 : -2000000 ≤ w ∧ w ≤ 2000000) : -2 ^ 60 < fw g w ∧ fw g w < 2 ^ 60 := by
  unfold fw
  generalize g.2.2.2.2.2.2.1.toInt = j at h1
  have t1 : j * w ≤ 1000000 * 2000000 := by
    rcases Int.le_total 0 w with z | z
    · exact Int.mul_le_mul h1.2 h2.2 z (by decide)
    · have : j * w ≤ 0 := Int.mul_nonpos_of_nonneg_of_nonpos h1.1 z
      omega
  have t2 : -(1000000 * 2000000) ≤ j * w := by
    rcases Int.le_total 0 w with z | z
    · have := Int.mul_nonneg h1.1 z
      omega
    · have : j * (-w) ≤ 1000000 * 2000000 := Int.mul_le_mul h1.2 (by omega) (by omega) (by decide)
      rw [Int.mul_neg] at this
      omega
  rw [Int.mul_assoc]
  omega
theorem c_gap (n1 : CC B h n bs ln tx nr sz tm nd dy nl lm ll jk) (hg : vb n b ∧ (-600 ≤ w.toInt ∧ w.toInt ≤ 900) ∧ -1 ≤ pt.toInt → ∀ h', CC B h' n bs ln tx nr sz tm nd dy nl lm ll jk → Kp B h h' → Q (some (.long (prt (mkRat (fg (bs (ix b)) w.toInt) 10000000) pt))) h')
    (hb : ¬ (vb n b ∧ (-600 ≤ w.toInt ∧ w.toInt ≤ 900) ∧ -1 ≤ pt.toInt) → Q (some (.long (wrg pt))) h) :
    PW B X 74 0 [some (.ref B), some (.int b), some (.int w), some (.int pt), none] [] h Q := by
  have cf := n1.1.cf
  obtain ⟨rs, rs2, lw, jh, jm, ra, a1⟩ := n1.ob
  by_cases h1 : vb n b
  · obtain ⟨e1, e2⟩ := vb_ix h1
    generalize ix b = i at hg e1 e2
    subst e1
    by_cases hV : (-600 ≤ w.toInt ∧ w.toInt ≤ 900) ∧ -1 ≤ pt.toInt
    · have hg2 := hg ⟨h1, hV⟩
      clear hg
      obtain ⟨v1, v2⟩ := hV
      obtain ⟨s, U, L, x1⟩ := n1.2.2.2.1
      obtain ⟨b0, b1⟩ := n1.bev e2
      simp only [u_74_0, u_74_0n, u_74_1, u_74_2, u_74_5, u_74_5n, u_74_7, u_74_7n, u_74_9, u_74_9n, u_74_12, u_74_13, u_74_16, u_74_19, u_74_20, u_74_21, u_74_24, u_74_25, u_74_28, u_74_29, u_74_29n, u_74_30, u_74_33, u_74_33n, u_74_35, u_74_36, u_74_39, u_74_42, pm_O_some, pm_w_nil, pm_w_i, pm_w_l, pm_w_r, pm_w_n, pm_c_n, pm_c_i, pm_c_l, pm_c_r, pm_c_u, Nat.reduceAdd, Nat.reduceLeDiff, true_and, Option.toList_some, Option.toList_none, List.cons_append, List.nil_append, cf.io, s_find_t cf e2, s_warm, one0, ite_not, w_warm, if_pos v1, i10, if_false, i_m1, if_pos v2, a1, gf_0_8, pm_io_of b0.1, c_fgap b0 b1 v1, x1.io, l10m]
      have hj := b1.2.2.2.2.2.2
      have hj2 := b1.2.2.2.2.2.1
      have hw := fw_b (g := bs i) (w := w.toInt - (bs i).2.2.2.2.2.2.2.2.toInt) b1.2.2.2.2.1 (by omega)
      refine c_fput x1 (by unfold fg; omega) (by unfold fg; omega) (by decide) (by decide) (fun hA y1 y2 => ?_)
      have t1 := (y2.2.2 B (by omega)).trans a1
      simp only [u_74_45, u_74_45n, u_74_46, u_74_49, u_74_50, pm_O_some, pm_w_nil, pm_w_i, pm_w_l, pm_w_r, pm_w_n, pm_c_n, pm_c_i, pm_c_l, pm_c_r, pm_c_u, Nat.reduceAdd, Nat.reduceLeDiff, true_and, Option.toList_some, Option.toList_none, List.cons_append, List.nil_append, t1, gf_0_8, FracV.io y1]
      rw [c_partQ y1 v2]
      simp only [u_74_53, pm_O_some, pm_w_nil, pm_w_i, pm_w_l, pm_w_r, pm_w_n, pm_c_n, pm_c_i, pm_c_l, pm_c_r, pm_c_u, Nat.reduceAdd, Nat.reduceLeDiff, true_and, Option.toList_some, Option.toList_none, List.cons_append, List.nil_append]
      exact hg2 hA ⟨n1.1.frm y2 (by omega), n1.2.sp y2 y1⟩ (Kp.of y2 (by omega))
    · simp only [u_74_0, u_74_0n, u_74_1, u_74_2, u_74_5, u_74_5n, u_74_7, u_74_7n, u_74_9, u_74_9n, u_74_12, u_74_13, u_74_16, u_74_19, u_74_20, u_74_21, pm_O_some, pm_w_nil, pm_w_i, pm_w_l, pm_w_r, pm_w_n, pm_c_n, pm_c_i, pm_c_l, pm_c_r, pm_c_u, Nat.reduceAdd, Nat.reduceLeDiff, true_and, Option.toList_some, Option.toList_none, List.cons_append, List.nil_append, cf.io, s_find_t cf e2, s_warm, one0, ite_not, w_warm, i_m1]
      have hb := hb (fun c => hV c.2)
      repeat' split
      all_goals first | (simp only [u_74_24, u_74_25, u_74_28, pm_O_some, pm_w_nil, pm_w_i, pm_w_l, pm_w_r, pm_w_n, pm_c_n, pm_c_i, pm_c_l, pm_c_r, pm_c_u, Nat.reduceAdd, Nat.reduceLeDiff, true_and, Option.toList_some, Option.toList_none, List.cons_append, List.nil_append, s_wrong]; exact hb) | exact absurd ⟨by assumption, by assumption⟩ hV
  · simp only [u_74_0, u_74_0n, u_74_1, u_74_2, u_74_5, u_74_5n, u_74_7, u_74_7n, u_74_9, u_74_9n, u_74_12, u_74_13, u_74_16, u_74_19, u_74_20, u_74_21, u_74_24, u_74_25, u_74_28, pm_O_some, pm_w_nil, pm_w_i, pm_w_l, pm_w_r, pm_w_n, pm_c_n, pm_c_i, pm_c_l, pm_c_r, pm_c_u, Nat.reduceAdd, Nat.reduceLeDiff, true_and, Option.toList_some, Option.toList_none, List.cons_append, List.nil_append, cf.io, s_find_f cf h1, s_wrong]
    exact hb (fun c => h1 c.1)
theorem CC.wyl (n1 : CC B h n bs ln tx nr sz tm nd dy nl lm ll jk) : wy dy nd ≤ 600000 := by
  obtain ⟨⟨rs, rs2, lw, jh, jm, ra, a1, a2, a3, a4, a5, a6, a7, ⟨a8, a9, a10⟩, a11⟩, n2⟩ := n1
  have := wy_le a9
  omega
theorem c_travel (n1 : CC B h n bs ln tx nr sz tm nd dy nl lm ll jk) (hg : vb n b ∧ -1 ≤ pt.toInt → ∀ h', CC B h' n bs ln tx nr sz tm nd dy nl lm ll jk → Kp B h h' → Q (some (.long (prt (mkRat (fw (bs (ix b)) (wy dy nd)) 10000000) pt))) h')
    (hb : ¬ (vb n b ∧ -1 ≤ pt.toInt) → Q (some (.long (wrg pt))) h) :
    PW B X 78 0 [some (.ref B), some (.int b), some (.int pt), none] [] h Q := by
  have cf := n1.1.cf
  obtain ⟨rs, rs2, lw, jh, jm, ra, a1⟩ := n1.ob
  by_cases h1 : vb n b
  · obtain ⟨e1, e2⟩ := vb_ix h1
    generalize ix b = i at hg e1 e2
    subst e1
    by_cases v2 : -1 ≤ pt.toInt
    · have hg2 := hg ⟨h1, v2⟩
      clear hg
      obtain ⟨s, U, L, x1⟩ := n1.2.2.2.1
      obtain ⟨b0, b1⟩ := n1.bev e2
      simp only [u_78_0, u_78_0n, u_78_1, u_78_2, u_78_5, u_78_5n, u_78_6, u_78_6n, u_78_7, u_78_7n, u_78_10, u_78_11, u_78_12, u_78_15, u_78_16, u_78_19, u_78_20, u_78_20n, u_78_21, u_78_24, u_78_24n, u_78_25, u_78_25n, u_78_26, u_78_29, u_78_32, u_78_35, pm_O_some, pm_w_nil, pm_w_i, pm_w_l, pm_w_r, pm_w_n, pm_c_n, pm_c_i, pm_c_l, pm_c_r, pm_c_u, Nat.reduceAdd, Nat.reduceLeDiff, true_and, Option.toList_some, Option.toList_none, List.cons_append, List.nil_append, cf.io, s_find_t cf e2, i_m1, if_pos v2, a1, gf_0_8, gf_0_12, pm_io_of b0.1, ← lI_N, c_fway b0, x1.io]
      have hw := fw_b (g := bs i) (w := (wy dy nd : Int)) b1.2.2.2.2.1 (by have := n1.wyl; omega)
      refine c_fput (d := 10000000) x1 (by omega) (by omega) (by decide) (by decide) (fun hA y1 y2 => ?_)
      have t1 := (y2.2.2 B (by omega)).trans a1
      simp only [u_78_38, u_78_38n, u_78_39, u_78_42, u_78_43, pm_O_some, pm_w_nil, pm_w_i, pm_w_l, pm_w_r, pm_w_n, pm_c_n, pm_c_i, pm_c_l, pm_c_r, pm_c_u, Nat.reduceAdd, Nat.reduceLeDiff, true_and, Option.toList_some, Option.toList_none, List.cons_append, List.nil_append, t1, gf_0_8, FracV.io y1]
      rw [c_partQ y1 v2]
      simp only [u_78_46, pm_O_some, pm_w_nil, pm_w_i, pm_w_l, pm_w_r, pm_w_n, pm_c_n, pm_c_i, pm_c_l, pm_c_r, pm_c_u, Nat.reduceAdd, Nat.reduceLeDiff, true_and, Option.toList_some, Option.toList_none, List.cons_append, List.nil_append]
      exact hg2 hA ⟨n1.1.frm y2 (by omega), n1.2.sp y2 y1⟩ (Kp.of y2 (by omega))
    · simp only [u_78_0, u_78_0n, u_78_1, u_78_2, u_78_5, u_78_5n, u_78_6, u_78_6n, u_78_7, u_78_7n, u_78_10, u_78_11, u_78_12, u_78_15, u_78_16, u_78_19, pm_O_some, pm_w_nil, pm_w_i, pm_w_l, pm_w_r, pm_w_n, pm_c_n, pm_c_i, pm_c_l, pm_c_r, pm_c_u, Nat.reduceAdd, Nat.reduceLeDiff, true_and, Option.toList_some, Option.toList_none, List.cons_append, List.nil_append, cf.io, s_find_t cf e2, i_m1, if_neg v2, s_wrong]
      exact hb (fun c => v2 c.2)
  · simp only [u_78_0, u_78_0n, u_78_1, u_78_2, u_78_5, u_78_5n, u_78_6, u_78_6n, u_78_7, u_78_7n, u_78_10, u_78_11, u_78_12, u_78_15, u_78_16, u_78_19, pm_O_some, pm_w_nil, pm_w_i, pm_w_l, pm_w_r, pm_w_n, pm_c_n, pm_c_i, pm_c_l, pm_c_r, pm_c_u, Nat.reduceAdd, Nat.reduceLeDiff, true_and, Option.toList_some, Option.toList_none, List.cons_append, List.nil_append, cf.io, s_find_f cf h1, s_wrong]
    exact hb (fun c => h1 c.1)
end AS

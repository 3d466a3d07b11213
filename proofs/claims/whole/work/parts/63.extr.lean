/-! EXTREMES: the least and the greatest sum over all rules, and their cases. -/
def gmx (v : Nat → Rat) : Nat → Rat × Int32
  | 0 => (0, -1)
  | k + 1 => if (gmx v k).2 = -1 ∨ (gmx v k).1 < v k then (v k, nI k) else gmx v k
def gmn (v : Nat → Rat) : Nat → Rat × Int32
  | 0 => (0, -1)
  | k + 1 => if (gmn v k).2 = -1 ∨ v k < (gmn v k).1 then (v k, nI k) else gmn v k
def RsV (B : Nat) (h : pm_H) (r nr nt : Nat) (sz : Nat → Nat) (tm : Nat → Nat → Tm) : Prop := ∃ fc fu fl fk fs, RsR B h r fc fu fl fk fs (nI nr) (nI nt) ∧ nr ≤ 8 ∧ ∀ k, k < nr → fs k = nI (sz k) ∧ 1 ≤ sz k ∧ sz k ≤ 6 ∧ RuT fc fu fl fk k (sz k) (tm k)
def BeV (B : Nat) (h : pm_H) (b : Nat) (x y hx hy : Int32) (av : Nat → Nat → Int) (bv : Nat → Nat → Nat) (jl jg jw : Int32) : Prop :=
  pm_at B h b = some (.inr (9, [.int x, .int y, .int hx, .int hy, .ref (b + 1), .ref (b + 2), .int jl, .int jg, .int jw, .ref (b + 3)])) ∧
  (∃ fa fb, pm_at B h (b + 1) = some (.inl (0, 24, .inl fa)) ∧ pm_at B h (b + 2) = some (.inl (0, 24, .inl fb)) ∧ ∀ i ax, i < 8 → ax < 3 → (fa (i * 3 + ax)).toInt = av i ax ∧ (-1000000 ≤ av i ax ∧ av i ax ≤ 1000000) ∧ fb (i * 3 + ax) = nI (bv i ax) ∧ 1 ≤ bv i ax ∧ bv i ax ≤ 1000) ∧ ∃ s U L, FracV B h (b + 3) s U L
/-- Extremes at e, its scales five cells ahead of it -/
def ExR (B : Nat) (h : pm_H) (e : Nat) (lq : Rat) (lc : Int32) (gq : Rat) (gc : Int32) : Prop := pm_at B h (e + 5) = some (.inr (6, [.ref e, .ref (e + 6), .ref (e + 16), .ref (e + 21), .ref (e + 26), .int lc, .int gc])) ∧ (∃ P M R F k, TsV B h (e + 6) P M R F k) ∧ (∃ s U L, FracV B h (e + 16) s U L) ∧ FracQ B h (e + 21) lq ∧ FracQ B h (e + 26) gq ∧ sml lq ∧ sml gq ∧ ScV B h e
section EX
variable {B : Nat} {X : pm_X} {h h' : pm_H} {Q : Option Value → pm_H → Prop} {r b e lo hi nr nt ax : Nat} {sz : Nat → Nat} {tm : Nat → Nat → Tm} {x y hx hy jl jg jw lc gc : Int32} {av : Nat → Nat → Int} {bv : Nat → Nat → Nat} {lq gq : Rat}
theorem RsV.frm (n1 : RsV B h r nr nt sz tm) (f1 : Frm B h h' lo hi) (d : r + 6 ≤ lo ∨ hi ≤ r) : RsV B h' r nr nt sz tm := by
  obtain ⟨fc, fu, fl, fk, fs, h1, h2⟩ := n1
  exact ⟨fc, fu, fl, fk, fs, h1.frm f1 d, h2⟩
theorem RsV.io (n1 : RsV B h r nr nt sz tm) : pm_io B h r 3 = true := by
  obtain ⟨fc, fu, fl, fk, fs, h1, h2⟩ := n1
  exact pm_io_of h1.1
theorem BeV.frm (n1 : BeV B h b x y hx hy av bv jl jg jw) (f1 : Frm B h h' lo hi) (d : b + 8 ≤ lo ∨ hi ≤ b) : BeV B h' b x y hx hy av bv jl jg jw := by
  obtain ⟨h1, ⟨fa, fb, h2, h3, h4⟩, s, U, L, h5⟩ := n1
  exact ⟨by rw [f1.2.2 _ (by omega)]; exact h1, ⟨fa, fb, by rw [f1.2.2 _ (by omega)]; exact h2, by rw [f1.2.2 _ (by omega)]; exact h3, h4⟩, s, U, L, h5.frm f1 (by omega)⟩
theorem ExR.frm (n1 : ExR B h e lq lc gq gc) (f1 : Frm B h h' lo hi) (d : e + 31 ≤ lo ∨ hi ≤ e) : ExR B h' e lq lc gq gc := by
  obtain ⟨h1, ⟨P, M, R, F, k, h2⟩, ⟨s, U, L, h3⟩, h4, h5, h6, h7, h8⟩ := n1
  exact ⟨by rw [f1.2.2 _ (by omega)]; exact h1, ⟨P, M, R, F, k, h2.frm f1 (by omega)⟩, ⟨s, U, L, h3.frm f1 (by omega)⟩, h4.frm f1 (by omega), h5.frm f1 (by omega), h6, h7, h8.frm f1 (by omega)⟩
/-- addUp and tell, for one rule: the candidate -/
theorem c_cand {k : Nat} {sd : Int32} {s1 : Int32} {U L P M R j : Nat} {F : Nat → Nat} (n2 : RsV B h r nr nt sz tm) (n3 : BeV B h b x y hx hy av bv jl jg jw) (hax : ax < 3) (hk : k < nr) (hsd : sd.toInt = 1 ∨ sd.toInt = -1) (nt1 : TsV B h (e + 6) P M R F j) (nc : FracV B h (e + 16) s1 U L) (d1 : e + 31 ≤ r ∨ r + 6 ≤ e) (d2 : e + 31 ≤ b ∨ b + 8 ≤ e)
    (hQ : ∀ h' P M F j, TsV B h' (e + 6) P M (pF F j) F j → Frm B h h' (e + 6) (e + 16) → (∀ Q2 : Option Value → pm_H → Prop, (∀ h'', FracQ B h'' (e + 16) (rq (tm k) (fun i => av i ax) (fun i => bv i ax) sd.toInt (sz k)) → sml (rq (tm k) (fun i => av i ax) (fun i => bv i ax) sd.toInt (sz k)) → TsV B h'' (e + 6) P M (pF F j) F j → Frm B h' h'' (e + 16) (e + 21) → Q2 none h'') → PW B X 49 0 [some (.ref (e + 6)), some (.ref (e + 16)), none, none, none] [] h' Q2) → Q none h') :
    PW B X 40 0 [some (.ref r), some (.int (nI k)), some (.ref b), some (.int (nI ax)), some (.int sd), some (.ref (e + 6)), none, none, none, none, none, none, none] [] h Q := by
  obtain ⟨fc, fu, fl, fk, fs, g1, g2, g3⟩ := n2
  obtain ⟨g4, g5, g6, g7⟩ := g3 k hk
  obtain ⟨b0, ⟨fa, fb, b1, b2, b3⟩, -⟩ := n3
  refine c_addUp (ab := fun i => av i ax) (be := fun i => bv i ax) g1 (by omega) g4 g6 g7 b0 b1 b2 hax (fun i hi => ⟨(b3 i ax hi hax).1, (b3 i ax hi hax).2.1.1, (b3 i ax hi hax).2.1.2⟩) (fun i hi => ⟨(b3 i ax hi hax).2.2.1, (b3 i ax hi hax).2.2.2.1, (b3 i ax hi hax).2.2.2.2⟩) hsd nt1 (by omega) (by omega) ?_
  intro h' P M F j y1 y2 y3 y4 y5 y6
  refine hQ h' P M F j y1 y6 (fun Q2 k2 => ?_)
  refine c_tellQ y1 (nc.frm y6 (by omega)) (by omega) y2 y3 y4 (fun h'' z1 z2 z3 z4 => ?_)
  rw [y5] at z1 z2
  exact k2 h'' z1 z2 z3 z4
theorem sml_0 : sml 0 := ⟨by decide, by decide⟩
theorem rat01 : mkRat 0 1 = 0 := Rat.zero_mkRat 1
theorem cq_pos {q q2 : Rat} : cq q q2 ≤ 0 ↔ ¬ q2 < q := by
  unfold cq
  rw [Rat.not_lt]
  split
  · rename_i z
    exact ⟨fun _ => Rat.le_of_lt z, fun _ => by decide⟩
  · rename_i z
    split
    · rename_i y
      exact ⟨fun _ => by rw [y]; exact Rat.le_refl, fun _ => by decide⟩
    · rename_i y
      refine ⟨fun c => absurd c (by decide), fun c => ?_⟩
      exact absurd (Rat.le_antisymm c (Rat.not_lt.mp z)) y
theorem cq_neg {q q2 : Rat} : 0 ≤ cq q q2 ↔ ¬ q < q2 := by
  unfold cq
  by_cases z : q < q2
  · rw [if_pos z]
    exact ⟨fun c => absurd c (by decide), fun c => absurd z c⟩
  · rw [if_neg z]
    refine ⟨fun _ => z, fun _ => ?_⟩
    split <;> decide
set_option maxHeartbeats 2000000 in
theorem c_reckon (n1 : ExR B h e lq lc gq gc) (n2 : RsV B h r nr nt sz tm) (n3 : BeV B h b x y hx hy av bv jl jg jw) (hax : ax < 3) (d1 : e + 31 ≤ r ∨ r + 6 ≤ e) (d2 : e + 31 ≤ b ∨ b + 8 ≤ e)
    (hQ : ∀ h', ExR B h' e (gmn (fun k => rq (tm k) (fun i => av i ax) (fun i => bv i ax) (-1) (sz k)) nr).1 (gmn (fun k => rq (tm k) (fun i => av i ax) (fun i => bv i ax) (-1) (sz k)) nr).2 (gmx (fun k => rq (tm k) (fun i => av i ax) (fun i => bv i ax) 1 (sz k)) nr).1 (gmx (fun k => rq (tm k) (fun i => av i ax) (fun i => bv i ax) 1 (sz k)) nr).2 → Frm B h h' e (e + 31) → Q none h') :
    PW B X 36 0 [some (.ref (e + 5)), some (.ref r), some (.ref b), some (.int (nI ax)), none] [] h Q := by
  have hnr : nr ≤ 8 := by obtain ⟨fc, fu, fl, fk, fs, g1, g2, g3⟩ := n2; exact g2
  generalize hvg : (fun k => rq (tm k) (fun i => av i ax) (fun i => bv i ax) 1 (sz k)) = vg at hQ
  generalize hvl : (fun k => rq (tm k) (fun i => av i ax) (fun i => bv i ax) (-1) (sz k)) = vl at hQ
  have loop : ∀ m i hb, i + m = nr → ExR B hb e (gmn vl i).1 (gmn vl i).2 (gmx vg i).1 (gmx vg i).2 → Frm B h hb e (e + 31) → PW B X 36 31 [some (.ref (e + 5)), some (.ref r), some (.ref b), some (.int (nI ax)), some (.int (nI i))] [] hb Q := by
    intro m
    induction m with
    | zero =>
      intro i hb hi x1 x2
      obtain rfl : i = nr := by omega
      obtain ⟨fc, fu, fl, fk, fs, g1, g2⟩ := n2.frm x2 (by omega)
      have e2 : nI i ≤ nI i := nI_le (Nat.le_refl _) (by omega)
      have k1 := g1.1
      simp only [u_36_31, u_36_33, u_36_33n, u_36_34, u_36_37, u_36_180, pm_O_some, pm_w_nil, pm_w_i, pm_w_l, pm_w_r, pm_w_n, pm_c_n, pm_c_i, pm_c_l, pm_c_r, pm_c_u, Nat.reduceAdd, Nat.reduceLeDiff, true_and, Option.toList_some, Option.toList_none, List.cons_append, List.nil_append, k1, gf_3_5, if_pos e2]
      exact hQ hb x1 x2
    | succ m ih =>
      intro i hb hi x1 x2
      have hin : i < nr := by omega
      have m2 := n2.frm x2 (by omega)
      have m3 := n3.frm x2 (by omega)
      have k1 : ∃ a b c d f g, pm_at B hb r = some (.inr (3, [a, b, c, d, f, .int (nI nr), g])) := by
        obtain ⟨fc, fu, fl, fk, fs, g1, g2⟩ := m2
        exact ⟨_, _, _, _, _, _, g1.1⟩
      obtain ⟨w1, w2, w3, w4, w5, w6, k1⟩ := k1
      have e2 : ¬ nI nr ≤ nI i := nI_ge hin (by omega)
      obtain ⟨y1, ⟨P, M, R, F, j, y2⟩, ⟨s0, U0, L0, y3⟩, y4, y5, y6, y7, y8⟩ := x1
      rw [u_36_31]
      simp only [u_36_33, u_36_33n, u_36_34, u_36_37, u_36_40, u_36_40n, u_36_41, u_36_43, u_36_43n, u_36_44, u_36_45, u_36_46, u_36_46n, u_36_47, u_36_50, pm_O_some, pm_w_nil, pm_w_i, pm_w_l, pm_w_r, pm_w_n, pm_c_n, pm_c_i, pm_c_l, pm_c_r, pm_c_u, Nat.reduceAdd, Nat.reduceLeDiff, true_and, Option.toList_some, Option.toList_none, List.cons_append, List.nil_append, k1, gf_3_5, if_neg e2, y1, gf_6_1, m2.io]
      -- what follows behind the greatest's part
      have half : ∀ hc, ExR B hc e (gmn vl i).1 (gmn vl i).2 (gmx vg (i + 1)).1 (gmx vg (i + 1)).2 → Frm B h hc e (e + 31) → PW B X 36 107 [some (.ref (e + 5)), some (.ref r), some (.ref b), some (.int (nI ax)), some (.int (nI i))] [] hc Q := by
        intro hc x1 x2
        have m2 := n2.frm x2 (by omega)
        have m3 := n3.frm x2 (by omega)
        obtain ⟨y1, ⟨P, M, R, F, j, y2⟩, ⟨s0, U0, L0, y3⟩, y4, y5, y6, y7, y8⟩ := x1
        simp only [u_36_107, u_36_107n, u_36_108, u_36_110, u_36_110n, u_36_111, u_36_112, u_36_113, u_36_113n, u_36_114, u_36_117, pm_O_some, pm_w_nil, pm_w_i, pm_w_l, pm_w_r, pm_w_n, pm_c_n, pm_c_i, pm_c_l, pm_c_r, pm_c_u, Nat.reduceAdd, Nat.reduceLeDiff, true_and, Option.toList_some, Option.toList_none, List.cons_append, List.nil_append, y1, gf_6_1, m2.io]
        refine c_cand m2 m3 hax hin (Or.inr (by decide)) y2 y3 d1 d2 (fun h1 P1 M1 F1 j1 z1 z2 z3 => ?_)
        have a1 : pm_at B h1 (e + 5) = _ := (z2.2.2 _ (by omega)).trans y1
        simp only [u_36_120, u_36_120n, u_36_121, u_36_124, u_36_124n, u_36_125, u_36_128, pm_O_some, pm_w_nil, pm_w_i, pm_w_l, pm_w_r, pm_w_n, pm_c_n, pm_c_i, pm_c_l, pm_c_r, pm_c_u, Nat.reduceAdd, Nat.reduceLeDiff, true_and, Option.toList_some, Option.toList_none, List.cons_append, List.nil_append, a1, gf_6_1, gf_6_2, z1.io]
        refine z3 _ (fun h2 q1 q2 q3 q4 => ?_)
        have hv : rq (tm i) (fun i => av i ax) (fun i => bv i ax) (-1 : Int32).toInt (sz i) = vl i := by rw [← hvl]; rfl
        rw [hv] at q1 q2
        have b1 : pm_at B h2 (e + 5) = _ := (q4.2.2 _ (by omega)).trans a1
        have F12 : Frm B hc h2 e (e + 31) := (z2.mono (by omega) (by omega)).trans (q4.mono (by omega) (by omega))
        have c4 := (y4.frm z2 (by omega)).frm q4 (by omega)
        have c5 := (y5.frm z2 (by omega)).frm q4 (by omega)
        have c8 := (y8.frm z2 (by omega)).frm q4 (by omega)
        have take : ∀ h3, pm_at B h3 (e + 5) = some (.inr (6, [.ref e, .ref (e + 6), .ref (e + 16), .ref (e + 21), .ref (e + 26), .int (gmn vl i).2, .int (gmx vg (i + 1)).2])) → TsV B h3 (e + 6) P1 M1 (pF F1 j1) F1 j1 → FracQ B h3 (e + 16) (vl i) → FracQ B h3 (e + 21) (gmn vl i).1 → FracQ B h3 (e + 26) (gmx vg (i + 1)).1 → ScV B h3 e → Frm B h h3 e (e + 31) → ((gmn vl i).2 = -1 ∨ vl i < (gmn vl i).1) →
            PW B X 36 157 [some (.ref (e + 5)), some (.ref r), some (.ref b), some (.int (nI ax)), some (.int (nI i))] [] h3 Q := by
          intro h3 p1 p2 p3 p4 p5 p6 p7 p8
          simp only [u_36_157, u_36_157n, u_36_158, u_36_161, u_36_161n, u_36_162, u_36_165, pm_O_some, pm_w_nil, pm_w_i, pm_w_l, pm_w_r, pm_w_n, pm_c_n, pm_c_i, pm_c_l, pm_c_r, pm_c_u, Nat.reduceAdd, Nat.reduceLeDiff, true_and, Option.toList_some, Option.toList_none, List.cons_append, List.nil_append, p1, gf_6_2, gf_6_3, FracV.io p4]
          refine c_fcopy p4 p3 (by omega) (fun h4 r1 r2 => ?_)
          have s1 : pm_at B h4 (e + 5) = _ := (r2.2.2 _ (by omega)).trans p1
          simp only [u_36_168, u_36_168n, u_36_169, u_36_171, pm_O_some, pm_w_nil, pm_w_i, pm_w_l, pm_w_r, pm_w_n, pm_c_n, pm_c_i, pm_c_l, pm_c_r, pm_c_u, Nat.reduceAdd, Nat.reduceLeDiff, true_and, Option.toList_some, Option.toList_none, List.cons_append, List.nil_append, s1, pf_6_5]
          have F5 := Frm.set (e := .inr (6, [.ref e, .ref (e + 6), .ref (e + 16), .ref (e + 21), .ref (e + 26), .int (nI i), .int (gmx vg (i + 1)).2])) s1 rfl
          have s2 := pm_at_self (e := .inr (6, [.ref e, .ref (e + 6), .ref (e + 16), .ref (e + 21), .ref (e + 26), .int (nI i), .int (gmx vg (i + 1)).2])) (pm_v_at s1)
          generalize pm_set B h4 (e + 5) (.inr (6, [.ref e, .ref (e + 6), .ref (e + 16), .ref (e + 21), .ref (e + 26), .int (nI i), .int (gmx vg (i + 1)).2])) = h5 at F5 s2 ⊢
          simp only [u_36_174, u_36_177, pm_O_some, pm_w_nil, pm_w_i, pm_w_l, pm_w_r, pm_w_n, pm_c_n, pm_c_i, pm_c_l, pm_c_r, pm_c_u, Nat.reduceAdd, Nat.reduceLeDiff, true_and, Option.toList_some, Option.toList_none, List.cons_append, List.nil_append, nI_1]
          have en : gmn vl (i + 1) = (vl i, nI i) := by rw [gmn, if_pos p8]
          refine ih (i + 1) h5 (by omega) ?_ ((p7.trans (r2.mono (by omega) (by omega))).trans (F5.mono (by omega) (by omega)))
          rw [en]
          exact ⟨s2, ⟨_, _, _, _, _, (p2.frm r2 (by omega)).frm F5 (by omega)⟩, ⟨_, _, _, (FracV.frm p3 r2 (by omega)).frm F5 (by omega)⟩, FracQ.frm r1 F5 (by omega), (p5.frm r2 (by omega)).frm F5 (by omega), q2, y7, (p6.frm r2 (by omega)).frm F5 (by omega)⟩
        by_cases hfirst : (gmn vl i).2 = -1
        · simp only [u_36_131, u_36_131n, u_36_132, u_36_135, u_36_136, pm_O_some, pm_w_nil, pm_w_i, pm_w_l, pm_w_r, pm_w_n, pm_c_n, pm_c_i, pm_c_l, pm_c_r, pm_c_u, Nat.reduceAdd, Nat.reduceLeDiff, true_and, Option.toList_some, Option.toList_none, List.cons_append, List.nil_append, b1, gf_6_5, if_pos hfirst]
          exact take h2 b1 q3 q1 c4 c5 c8 (x2.trans F12) (Or.inl hfirst)
        · simp only [u_36_131, u_36_131n, u_36_132, u_36_135, u_36_136, u_36_139, u_36_139n, u_36_140, u_36_143, u_36_143n, u_36_144, u_36_147, u_36_147n, u_36_148, u_36_151, pm_O_some, pm_w_nil, pm_w_i, pm_w_l, pm_w_r, pm_w_n, pm_c_n, pm_c_i, pm_c_l, pm_c_r, pm_c_u, Nat.reduceAdd, Nat.reduceLeDiff, true_and, Option.toList_some, Option.toList_none, List.cons_append, List.nil_append, b1, gf_6_5, gf_6_0, gf_6_2, gf_6_3, if_neg hfirst, c8.io]
          refine c_cmpQ c8 q1 c4 q2 y6 (by omega) (by omega) (fun h3 r1 r2 => ?_)
          have s1 : pm_at B h3 (e + 5) = _ := (r2.2.2 _ (by omega)).trans b1
          by_cases hlt : vl i < (gmn vl i).1
          · have e5 : ¬ 0 ≤ cq (vl i) (gmn vl i).1 := fun c => cq_neg.mp c hlt
            simp only [u_36_154, pm_O_some, pm_w_nil, pm_w_i, pm_w_l, pm_w_r, pm_w_n, pm_c_n, pm_c_i, pm_c_l, pm_c_r, pm_c_u, Nat.reduceAdd, Nat.reduceLeDiff, true_and, Option.toList_some, Option.toList_none, List.cons_append, List.nil_append, if_neg e5]
            exact take h3 s1 (q3.frm r2 (by omega)) (q1.frm r2 (by omega)) (c4.frm r2 (by omega)) (c5.frm r2 (by omega)) r1 ((x2.trans F12).trans (r2.mono (by omega) (by omega))) (Or.inr hlt)
          · have e5 : 0 ≤ cq (vl i) (gmn vl i).1 := cq_neg.mpr hlt
            simp only [u_36_154, u_36_174, u_36_177, pm_O_some, pm_w_nil, pm_w_i, pm_w_l, pm_w_r, pm_w_n, pm_c_n, pm_c_i, pm_c_l, pm_c_r, pm_c_u, Nat.reduceAdd, Nat.reduceLeDiff, true_and, Option.toList_some, Option.toList_none, List.cons_append, List.nil_append, if_pos e5, nI_1]
            have en : gmn vl (i + 1) = gmn vl i := by
              rw [gmn, if_neg]
              rintro (z | z)
              · exact hfirst z
              · exact hlt z
            refine ih (i + 1) h3 (by omega) ?_ ((x2.trans F12).trans (r2.mono (by omega) (by omega)))
            rw [en]
            exact ⟨s1, ⟨_, _, _, _, _, q3.frm r2 (by omega)⟩, ⟨_, _, _, FracV.frm q1 r2 (by omega)⟩, c4.frm r2 (by omega), c5.frm r2 (by omega), y6, y7, r1⟩
      refine c_cand m2 m3 hax hin (Or.inl (by decide)) y2 y3 d1 d2 (fun h1 P1 M1 F1 j1 z1 z2 z3 => ?_)
      have a1 : pm_at B h1 (e + 5) = _ := (z2.2.2 _ (by omega)).trans y1
      simp only [u_36_53, u_36_53n, u_36_54, u_36_57, u_36_57n, u_36_58, u_36_61, pm_O_some, pm_w_nil, pm_w_i, pm_w_l, pm_w_r, pm_w_n, pm_c_n, pm_c_i, pm_c_l, pm_c_r, pm_c_u, Nat.reduceAdd, Nat.reduceLeDiff, true_and, Option.toList_some, Option.toList_none, List.cons_append, List.nil_append, a1, gf_6_1, gf_6_2, z1.io]
      refine z3 _ (fun h2 q1 q2 q3 q4 => ?_)
      have hv : rq (tm i) (fun i => av i ax) (fun i => bv i ax) (1 : Int32).toInt (sz i) = vg i := by rw [← hvg]; rfl
      rw [hv] at q1 q2
      have b1 : pm_at B h2 (e + 5) = _ := (q4.2.2 _ (by omega)).trans a1
      have F12 : Frm B hb h2 e (e + 31) := (z2.mono (by omega) (by omega)).trans (q4.mono (by omega) (by omega))
      have c4 := (y4.frm z2 (by omega)).frm q4 (by omega)
      have c5 := (y5.frm z2 (by omega)).frm q4 (by omega)
      have c8 := (y8.frm z2 (by omega)).frm q4 (by omega)
      have take : ∀ h3, pm_at B h3 (e + 5) = some (.inr (6, [.ref e, .ref (e + 6), .ref (e + 16), .ref (e + 21), .ref (e + 26), .int (gmn vl i).2, .int (gmx vg i).2])) → TsV B h3 (e + 6) P1 M1 (pF F1 j1) F1 j1 → FracQ B h3 (e + 16) (vg i) → FracQ B h3 (e + 21) (gmn vl i).1 → FracQ B h3 (e + 26) (gmx vg i).1 → ScV B h3 e → Frm B h h3 e (e + 31) → ((gmx vg i).2 = -1 ∨ (gmx vg i).1 < vg i) →
          PW B X 36 90 [some (.ref (e + 5)), some (.ref r), some (.ref b), some (.int (nI ax)), some (.int (nI i))] [] h3 Q := by
        intro h3 p1 p2 p3 p4 p5 p6 p7 p8
        simp only [u_36_90, u_36_90n, u_36_91, u_36_94, u_36_94n, u_36_95, u_36_98, pm_O_some, pm_w_nil, pm_w_i, pm_w_l, pm_w_r, pm_w_n, pm_c_n, pm_c_i, pm_c_l, pm_c_r, pm_c_u, Nat.reduceAdd, Nat.reduceLeDiff, true_and, Option.toList_some, Option.toList_none, List.cons_append, List.nil_append, p1, gf_6_2, gf_6_4, FracV.io p5]
        refine c_fcopy p5 p3 (by omega) (fun h4 r1 r2 => ?_)
        have s1 : pm_at B h4 (e + 5) = _ := (r2.2.2 _ (by omega)).trans p1
        simp only [u_36_101, u_36_101n, u_36_102, u_36_104, pm_O_some, pm_w_nil, pm_w_i, pm_w_l, pm_w_r, pm_w_n, pm_c_n, pm_c_i, pm_c_l, pm_c_r, pm_c_u, Nat.reduceAdd, Nat.reduceLeDiff, true_and, Option.toList_some, Option.toList_none, List.cons_append, List.nil_append, s1, pf_6_6]
        have F5 := Frm.set (e := .inr (6, [.ref e, .ref (e + 6), .ref (e + 16), .ref (e + 21), .ref (e + 26), .int (gmn vl i).2, .int (nI i)])) s1 rfl
        have s2 := pm_at_self (e := .inr (6, [.ref e, .ref (e + 6), .ref (e + 16), .ref (e + 21), .ref (e + 26), .int (gmn vl i).2, .int (nI i)])) (pm_v_at s1)
        generalize pm_set B h4 (e + 5) (.inr (6, [.ref e, .ref (e + 6), .ref (e + 16), .ref (e + 21), .ref (e + 26), .int (gmn vl i).2, .int (nI i)])) = h5 at F5 s2 ⊢
        have en : gmx vg (i + 1) = (vg i, nI i) := by rw [gmx, if_pos p8]
        refine half h5 ?_ ((p7.trans (r2.mono (by omega) (by omega))).trans (F5.mono (by omega) (by omega)))
        rw [en]
        exact ⟨s2, ⟨_, _, _, _, _, (p2.frm r2 (by omega)).frm F5 (by omega)⟩, ⟨_, _, _, (FracV.frm p3 r2 (by omega)).frm F5 (by omega)⟩, (p4.frm r2 (by omega)).frm F5 (by omega), FracQ.frm r1 F5 (by omega), y6, q2, (p6.frm r2 (by omega)).frm F5 (by omega)⟩
      by_cases hfirst : (gmx vg i).2 = -1
      · simp only [u_36_64, u_36_64n, u_36_65, u_36_68, u_36_69, pm_O_some, pm_w_nil, pm_w_i, pm_w_l, pm_w_r, pm_w_n, pm_c_n, pm_c_i, pm_c_l, pm_c_r, pm_c_u, Nat.reduceAdd, Nat.reduceLeDiff, true_and, Option.toList_some, Option.toList_none, List.cons_append, List.nil_append, b1, gf_6_6, if_pos hfirst]
        exact take h2 b1 q3 q1 c4 c5 c8 (x2.trans F12) (Or.inl hfirst)
      · simp only [u_36_64, u_36_64n, u_36_65, u_36_68, u_36_69, u_36_72, u_36_72n, u_36_73, u_36_76, u_36_76n, u_36_77, u_36_80, u_36_80n, u_36_81, u_36_84, pm_O_some, pm_w_nil, pm_w_i, pm_w_l, pm_w_r, pm_w_n, pm_c_n, pm_c_i, pm_c_l, pm_c_r, pm_c_u, Nat.reduceAdd, Nat.reduceLeDiff, true_and, Option.toList_some, Option.toList_none, List.cons_append, List.nil_append, b1, gf_6_6, gf_6_0, gf_6_2, gf_6_4, if_neg hfirst, c8.io]
        refine c_cmpQ c8 q1 c5 q2 y7 (by omega) (by omega) (fun h3 r1 r2 => ?_)
        have s1 : pm_at B h3 (e + 5) = _ := (r2.2.2 _ (by omega)).trans b1
        by_cases hlt : (gmx vg i).1 < vg i
        · have e5 : ¬ cq (vg i) (gmx vg i).1 ≤ 0 := fun c => cq_pos.mp c hlt
          simp only [u_36_87, pm_O_some, pm_w_nil, pm_w_i, pm_w_l, pm_w_r, pm_w_n, pm_c_n, pm_c_i, pm_c_l, pm_c_r, pm_c_u, Nat.reduceAdd, Nat.reduceLeDiff, true_and, Option.toList_some, Option.toList_none, List.cons_append, List.nil_append, if_neg e5]
          exact take h3 s1 (q3.frm r2 (by omega)) (q1.frm r2 (by omega)) (c4.frm r2 (by omega)) (c5.frm r2 (by omega)) r1 ((x2.trans F12).trans (r2.mono (by omega) (by omega))) (Or.inr hlt)
        · have e5 : cq (vg i) (gmx vg i).1 ≤ 0 := cq_pos.mpr hlt
          simp only [u_36_87, pm_O_some, pm_w_nil, pm_w_i, pm_w_l, pm_w_r, pm_w_n, pm_c_n, pm_c_i, pm_c_l, pm_c_r, pm_c_u, Nat.reduceAdd, Nat.reduceLeDiff, true_and, Option.toList_some, Option.toList_none, List.cons_append, List.nil_append, if_pos e5]
          have en : gmx vg (i + 1) = gmx vg i := by
            rw [gmx, if_neg]
            rintro (z | z)
            · exact hfirst z
            · exact hlt z
          refine half h3 ?_ ((x2.trans F12).trans (r2.mono (by omega) (by omega)))
          rw [en]
          exact ⟨s1, ⟨_, _, _, _, _, q3.frm r2 (by omega)⟩, ⟨_, _, _, FracV.frm q1 r2 (by omega)⟩, c4.frm r2 (by omega), c5.frm r2 (by omega), y6, y7, r1⟩
  obtain ⟨y1, y2, y3, y4, y5, y6, y7, y8⟩ := n1
  simp only [u_36_0, u_36_0n, u_36_1, u_36_4, u_36_5, u_36_6, pm_O_some, pm_w_nil, pm_w_i, pm_w_l, pm_w_r, pm_w_n, pm_c_n, pm_c_i, pm_c_l, pm_c_r, pm_c_u, Nat.reduceAdd, Nat.reduceLeDiff, true_and, Option.toList_some, Option.toList_none, List.cons_append, List.nil_append, y1, gf_6_3, FracV.io y4]
  rw [show (0 : Int64) = lI 0 from rfl, show (1 : Int64) = lN 1 from rfl]
  refine c_fput y4 (by decide) (by decide) (by decide) (by decide) (fun h1 k1 F1 => ?_)
  have a1 : pm_at B h1 (e + 5) = _ := (F1.2.2 _ (by omega)).trans y1
  have a5 := y5.frm F1 (by omega)
  simp only [u_36_9, u_36_9n, u_36_10, u_36_13, u_36_14, u_36_15, pm_O_some, pm_w_nil, pm_w_i, pm_w_l, pm_w_r, pm_w_n, pm_c_n, pm_c_i, pm_c_l, pm_c_r, pm_c_u, Nat.reduceAdd, Nat.reduceLeDiff, true_and, Option.toList_some, Option.toList_none, List.cons_append, List.nil_append, a1, gf_6_4, FracV.io a5]
  rw [show (0 : Int64) = lI 0 from rfl, show (1 : Int64) = lN 1 from rfl]
  refine c_fput a5 (by decide) (by decide) (by decide) (by decide) (fun h2 k2 F2 => ?_)
  rw [rat01] at k1 k2
  have b1 : pm_at B h2 (e + 5) = _ := (F2.2.2 _ (by omega)).trans a1
  simp only [u_36_18, u_36_18n, u_36_19, u_36_20, pm_O_some, pm_w_nil, pm_w_i, pm_w_l, pm_w_r, pm_w_n, pm_c_n, pm_c_i, pm_c_l, pm_c_r, pm_c_u, Nat.reduceAdd, Nat.reduceLeDiff, true_and, Option.toList_some, Option.toList_none, List.cons_append, List.nil_append, b1, pf_6_5]
  have F3 := Frm.set (e := .inr (6, [.ref e, .ref (e + 6), .ref (e + 16), .ref (e + 21), .ref (e + 26), .int (-1), .int gc])) b1 rfl
  have c1 := pm_at_self (e := .inr (6, [.ref e, .ref (e + 6), .ref (e + 16), .ref (e + 21), .ref (e + 26), .int (-1), .int gc])) (pm_v_at b1)
  generalize pm_set B h2 (e + 5) (.inr (6, [.ref e, .ref (e + 6), .ref (e + 16), .ref (e + 21), .ref (e + 26), .int (-1), .int gc])) = h3 at F3 c1 ⊢
  simp only [u_36_23, u_36_23n, u_36_24, u_36_25, pm_O_some, pm_w_nil, pm_w_i, pm_w_l, pm_w_r, pm_w_n, pm_c_n, pm_c_i, pm_c_l, pm_c_r, pm_c_u, Nat.reduceAdd, Nat.reduceLeDiff, true_and, Option.toList_some, Option.toList_none, List.cons_append, List.nil_append, c1, pf_6_6]
  have F4 := Frm.set (e := .inr (6, [.ref e, .ref (e + 6), .ref (e + 16), .ref (e + 21), .ref (e + 26), .int (-1), .int (-1)])) c1 rfl
  have d1' := pm_at_self (e := .inr (6, [.ref e, .ref (e + 6), .ref (e + 16), .ref (e + 21), .ref (e + 26), .int (-1), .int (-1)])) (pm_v_at c1)
  generalize pm_set B h3 (e + 5) (.inr (6, [.ref e, .ref (e + 6), .ref (e + 16), .ref (e + 21), .ref (e + 26), .int (-1), .int (-1)])) = h4 at F4 d1' ⊢
  simp only [u_36_28, u_36_29, pm_O_some, pm_w_nil, pm_w_i, pm_w_l, pm_w_r, pm_w_n, pm_c_n, pm_c_i, pm_c_l, pm_c_r, pm_c_u, Nat.reduceAdd, Nat.reduceLeDiff, true_and, Option.toList_some, Option.toList_none, List.cons_append, List.nil_append]
  have FF : Frm B h h4 e (e + 31) := (((F1.mono (by omega) (by omega)).trans (F2.mono (by omega) (by omega))).trans (F3.mono (by omega) (by omega))).trans (F4.mono (by omega) (by omega))
  obtain ⟨P, M, R, F, j, y2⟩ := y2
  obtain ⟨s0, U0, L0, y3⟩ := y3
  exact loop nr 0 h4 (by omega) ⟨d1', ⟨_, _, _, _, _, (((y2.frm F1 (by omega)).frm F2 (by omega)).frm F3 (by omega)).frm F4 (by omega)⟩, ⟨_, _, _, (((y3.frm F1 (by omega)).frm F2 (by omega)).frm F3 (by omega)).frm F4 (by omega)⟩, ((k1.frm F2 (by omega)).frm F3 (by omega)).frm F4 (by omega), (k2.frm F3 (by omega)).frm F4 (by omega), sml_0, sml_0, (((y8.frm F1 (by omega)).frm F2 (by omega)).frm F3 (by omega)).frm F4 (by omega)⟩ FF
end EX

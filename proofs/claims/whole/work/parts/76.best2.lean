/-! best, the whole. -/
section BE2
variable {B : Nat} {X : pm_X} {h h' h2 : pm_H} {Q : Option Value → pm_H → Prop} {e lo hi n ln nr nd nl i a k j : Nat} {bs : Nat → Bg} {tx sz lm ll : Nat → Nat} {tm : Nat → Nat → Tm} {dy : Nat → Int} {jk : Option (Nat × Nat)} {g : Bg} {b x y z ax w wh pt : Int32} {q q0 q1 q2 : Rat} {tt : Int} {lq gq : Rat} {lc gc : Int32}
theorem sml_wq (h1 : sml lq) (h2 : sml gq) : sml (wq lq gq k) := by
  unfold wq
  split
  · exact h1
  · split
    · exact h2
    · split
      · exact h1
      · exact h2
/-- the working room after a change of one of the needs -/
theorem CW.ndd {s : Int32} {U L : Nat} (n1 : CW B h) (ha : a < 3) (F : Frm B h h' (B + 54 + 5 * a) (B + 54 + 5 * a + 5)) (n2 : FracV B h' (B + 54 + 5 * a) s U L) : CW B h' := by
  obtain ⟨⟨t, g, rb, rt, h1⟩, ⟨lq, lc, gq, gc, h2⟩, ⟨s, U, L, h3⟩, ⟨fb, h4, h5⟩, ⟨s1, U1, L1, h6⟩, ⟨s2, U2, L2, h7⟩, ⟨s3, U3, L3, h8⟩⟩ := n1
  refine ⟨⟨t, g, rb, rt, by rw [F.2.2 _ (by omega)]; exact h1⟩, ⟨lq, lc, gq, gc, h2.frm F (by omega)⟩, ⟨_, _, _, h3.frm F (by omega)⟩, ⟨fb, by rw [F.2.2 _ (by omega)]; exact h4, h5⟩, ?_⟩
  obtain rfl | rfl | rfl : a = 0 ∨ a = 1 ∨ a = 2 := by omega
  · exact ⟨⟨_, _, _, n2⟩, ⟨_, _, _, h7.frm F (by omega)⟩, ⟨_, _, _, h8.frm F (by omega)⟩⟩
  · exact ⟨⟨_, _, _, h6.frm F (by omega)⟩, ⟨_, _, _, n2⟩, ⟨_, _, _, h8.frm F (by omega)⟩⟩
  · exact ⟨⟨_, _, _, h6.frm F (by omega)⟩, ⟨_, _, _, h7.frm F (by omega)⟩, ⟨_, _, _, n2⟩⟩
theorem CW.need (n1 : CW B h) (ha : a < 3) : (∃ s U L, FracV B h (B + 54 + 5 * a) s U L) ∧ ∃ fb, pm_at B h (B + 53) = some (.inl (5, 3, .inr (.inr (.inr (.inr fb))))) ∧ fb a = some (B + 54 + 5 * a) := by
  obtain ⟨_, _, _, ⟨fb, h4, h5, h5b, h5c⟩, h6, h7, h8⟩ := n1
  obtain rfl | rfl | rfl : a = 0 ∨ a = 1 ∨ a = 2 := by omega
  · exact ⟨h6, fb, h4, h5⟩
  · exact ⟨h7, fb, h4, h5b⟩
  · exact ⟨h8, fb, h4, h5c⟩
theorem c_best (n1 : CC B h n bs ln tx nr sz tm nd dy nl lm ll jk) (hg : vb n b → ∀ h', CC B h' n bs ln tx nr sz tm nd dy nl lm ll jk → Kp B h h' → Q (some (.int (bst (nq (bs (ix b)) nr sz tm 0) (nq (bs (ix b)) nr sz tm 1) (nq (bs (ix b)) nr sz tm 2) lm ll nl))) h') (hb : ¬ vb n b → Q (some (.int (-1))) h) :
    PW B X 80 0 [some (.ref B), some (.int b), none, none, none] [] h Q := by
  have cf := n1.1.cf
  have hnl : nl ≤ 12 := by
    obtain ⟨⟨_, _, _, _, _, _, _, _, _, _, _, _, ⟨l1, _⟩, _⟩, _⟩ := n1
    exact l1
  by_cases h1 : vb n b
  · have hg2 := hg h1
    clear hg
    obtain ⟨e1, e2⟩ := vb_ix h1
    generalize ix b = i at hg2 e1 e2
    subst e1
    generalize hq0 : nq (bs i) nr sz tm 0 = q0 at hg2
    generalize hq1 : nq (bs i) nr sz tm 1 = q1 at hg2
    generalize hq2 : nq (bs i) nr sz tm 2 = q2 at hg2
    have loop2 : ∀ m k hc, k + m = nl → CC B hc n bs ln tx nr sz tm nd dy nl lm ll jk → ND B hc q0 q1 q2 → Kp B h hc → PW B X 80 69 [some (.ref B), some (.int (nI i)), some (.ref (B + 95 + 8 * i)), some (.int (bst q0 q1 q2 lm ll k)), some (.int (nI k))] [] hc Q := by
      intro m
      induction m with
      | zero =>
        intro k hc hk m1 m2 m3
        obtain rfl : k = nl := by omega
        have e1 : nI k ≤ nI k := nI_le (Nat.le_refl _) (by omega)
        obtain ⟨rs, rs2, lw, jh, jm, ra, a1⟩ := m1.ob
        simp only [u_80_69, u_80_71, u_80_71n, u_80_72, u_80_75, u_80_111, u_80_112, pm_O_some, pm_w_nil, pm_w_i, pm_w_l, pm_w_r, pm_w_n, pm_c_n, pm_c_i, pm_c_l, pm_c_r, pm_c_u, Nat.reduceAdd, Nat.reduceLeDiff, true_and, Option.toList_some, Option.toList_none, List.cons_append, List.nil_append, a1, gf_0_15, if_pos e1]
        exact hg2 hc m1 m3
      | succ m ih =>
        intro k hc hk m1 m2 m3
        have hkn : k < nl := by omega
        have e1 : ¬ nI nl ≤ nI k := nI_ge hkn (by omega)
        obtain ⟨rs, rs2, lw, jh, jm, ra, a1⟩ := m1.ob
        rw [u_80_69]
        simp only [u_80_71, u_80_71n, u_80_72, u_80_75, u_80_78, u_80_78n, u_80_79, u_80_81, pm_O_some, pm_w_nil, pm_w_i, pm_w_l, pm_w_r, pm_w_n, pm_c_n, pm_c_i, pm_c_l, pm_c_r, pm_c_u, Nat.reduceAdd, Nat.reduceLeDiff, true_and, Option.toList_some, Option.toList_none, List.cons_append, List.nil_append, a1, gf_0_15, if_neg e1, m1.1.cf.io]
        refine c_holds m1 m2 hkn (fun hh hA o1 o2 o3 => ?_) (fun hh hA o1 o2 o3 => ?_)
        · have take : lsr lm ll k (ix (bst q0 q1 q2 lm ll k)) ∨ bst q0 q1 q2 lm ll k = -1 → PW B X 80 102 [some (.ref B), some (.int (nI i)), some (.ref (B + 95 + 8 * i)), some (.int (bst q0 q1 q2 lm ll k)), some (.int (nI k))] [] hA Q := by
            intro hl
            simp only [u_80_102, u_80_104, u_80_105, u_80_108, pm_O_some, pm_w_nil, pm_w_i, pm_w_l, pm_w_r, pm_w_n, pm_c_n, pm_c_i, pm_c_l, pm_c_r, pm_c_u, Nat.reduceAdd, Nat.reduceLeDiff, true_and, Option.toList_some, Option.toList_none, List.cons_append, List.nil_append, nI_1]
            have := ih (k + 1) hA (by omega) o1 o2 (m3.trans (Kp.of o3 (by omega)))
            rw [bst_t hh hl.symm] at this
            exact this
          by_cases c1 : bst q0 q1 q2 lm ll k = -1
          · simp only [u_80_84, u_80_87, u_80_88, u_80_89, pm_O_some, pm_w_nil, pm_w_i, pm_w_l, pm_w_r, pm_w_n, pm_c_n, pm_c_i, pm_c_l, pm_c_r, pm_c_u, Nat.reduceAdd, Nat.reduceLeDiff, true_and, Option.toList_some, Option.toList_none, List.cons_append, List.nil_append, i10, if_false, if_pos c1]
            exact take (Or.inr c1)
          · simp only [u_80_84, u_80_87, u_80_88, u_80_89, u_80_92, u_80_92n, u_80_93, u_80_95, u_80_96, pm_O_some, pm_w_nil, pm_w_i, pm_w_l, pm_w_r, pm_w_n, pm_c_n, pm_c_i, pm_c_l, pm_c_r, pm_c_u, Nat.reduceAdd, Nat.reduceLeDiff, true_and, Option.toList_some, Option.toList_none, List.cons_append, List.nil_append, i10, if_false, if_neg c1, o1.1.cf.io]
            rcases bst_r (q0 := q0) (q1 := q1) (q2 := q2) (lm := lm) (ll := ll) k with c2 | ⟨j, j1, j2⟩
            · exact absurd c2 c1
            · have j3 : ix (bst q0 q1 q2 lm ll k) = j := by rw [j2]; exact ix_nI (by omega)
              rw [j2]
              refine c_lesser o1 hkn (show j < nl by omega) (fun hl => ?_) (fun hl => ?_)
              · rw [← j2]
                simp only [u_80_99, pm_O_some, pm_w_nil, pm_w_i, pm_w_l, pm_w_r, pm_w_n, pm_c_n, pm_c_i, pm_c_l, pm_c_r, pm_c_u, Nat.reduceAdd, Nat.reduceLeDiff, true_and, Option.toList_some, Option.toList_none, List.cons_append, List.nil_append, i10, if_false]
                exact take (Or.inl (by rw [j3]; exact hl))
              · rw [← j2]
                simp only [u_80_99, u_80_105, u_80_108, pm_O_some, pm_w_nil, pm_w_i, pm_w_l, pm_w_r, pm_w_n, pm_c_n, pm_c_i, pm_c_l, pm_c_r, pm_c_u, Nat.reduceAdd, Nat.reduceLeDiff, true_and, Option.toList_some, Option.toList_none, List.cons_append, List.nil_append, i00, if_true, nI_1]
                have := ih (k + 1) hA (by omega) o1 o2 (m3.trans (Kp.of o3 (by omega)))
                rw [bst_f (fun c => by rcases c.2 with z | z; exact c1 z; rw [j3] at z; exact hl z)] at this
                exact this
        · simp only [u_80_84, u_80_105, u_80_108, pm_O_some, pm_w_nil, pm_w_i, pm_w_l, pm_w_r, pm_w_n, pm_c_n, pm_c_i, pm_c_l, pm_c_r, pm_c_u, Nat.reduceAdd, Nat.reduceLeDiff, true_and, Option.toList_some, Option.toList_none, List.cons_append, List.nil_append, i00, if_true, nI_1]
          have := ih (k + 1) hA (by omega) o1 o2 (m3.trans (Kp.of o3 (by omega)))
          rw [bst_f (fun c => hh c.1)] at this
          exact this
    have loop1 : ∀ m a hc v4, a + m = 3 → CC B hc n bs ln tx nr sz tm nd dy nl lm ll jk → (∀ j, j < a → FracQ B hc (B + 54 + 5 * j) (nq (bs i) nr sz tm j) ∧ sml (nq (bs i) nr sz tm j)) → Kp B h hc → PW B X 80 14 [some (.ref B), some (.int (nI i)), some (.ref (B + 95 + 8 * i)), some (.int (nI a)), v4] [] hc Q := by
      intro m
      induction m with
      | zero =>
        intro a hc v4 ha m1 m2 m3
        obtain rfl : a = 3 := by omega
        have e1 : (3 : Int32) ≤ nI 3 := by decide
        simp only [u_80_14, u_80_15, u_80_16, u_80_64, u_80_65, u_80_66, u_80_67, pm_O_some, pm_w_nil, pm_w_i, pm_w_l, pm_w_r, pm_w_n, pm_c_n, pm_c_i, pm_c_l, pm_c_r, pm_c_u, Nat.reduceAdd, Nat.reduceLeDiff, true_and, Option.toList_some, Option.toList_none, List.cons_append, List.nil_append, if_pos e1]
        have t0 := m2 0 (by omega)
        have t1 := m2 1 (by omega)
        have t2 := m2 2 (by omega)
        rw [hq0] at t0
        rw [hq1] at t1
        rw [hq2] at t2
        exact loop2 nl 0 hc (by omega) m1 ⟨t0, t1, t2⟩ m3
      | succ m ih =>
        intro a hc v4 ha m1 m2 m3
        have ha3 : a < 3 := by omega
        have e1 : ¬ (3 : Int32) ≤ nI a := nI_ge (b := 3) ha3 (by decide)
        obtain ⟨rs, rs2, lw, jh, jm, ra, a1⟩ := m1.ob
        obtain ⟨lq, lc, gq, gc, x1⟩ := m1.2.2.1
        rw [u_80_14]
        simp only [u_80_15, u_80_16, u_80_19, u_80_19n, u_80_20, u_80_23, u_80_23n, u_80_24, u_80_27, u_80_27n, u_80_28, u_80_29, pm_O_some, pm_w_nil, pm_w_i, pm_w_l, pm_w_r, pm_w_n, pm_c_n, pm_c_i, pm_c_l, pm_c_r, pm_c_u, Nat.reduceAdd, Nat.reduceLeDiff, true_and, Option.toList_some, Option.toList_none, List.cons_append, List.nil_append, if_neg e1, a1, gf_0_7, gf_0_4, pm_io_of x1.1]
        refine c_reck m1 ⟨_, _, _, _, _, _, _, _, _, _, _, _, _, _, _, _, _, _, a1⟩ e2 ha3 (fun hA y1 y2 y3 => ?_)
        have t1 := (y3.2.2 B (by omega)).trans a1
        obtain ⟨⟨s, U, L, u1⟩, fb, u2, u3⟩ := y1.2.need ha3
        have K : pm_ix (nI a) 3 = true := pm_ix_of ha3 (by decide)
        have fin : ∀ w : Nat, (w = if a = 2 then 1 else 2) → PW B X 80 52 [some (.ref B), some (.int (nI i)), some (.ref (B + 95 + 8 * i)), some (.int (nI a)), v4] [.int (nI w), .ref (B + 22), .ref (B + 54 + 5 * a)] hA Q := by
          intro w hw
          simp only [u_80_52, pm_O_some, pm_w_nil, pm_w_i, pm_w_l, pm_w_r, pm_w_n, pm_c_n, pm_c_i, pm_c_l, pm_c_r, pm_c_u, Nat.reduceAdd, Nat.reduceLeDiff, true_and, Option.toList_some, Option.toList_none, List.cons_append, List.nil_append, pm_io_of y2.1]
          refine c_chosen (e := B + 17) y2 (by rw [hw]; split <;> omega) (fun hB p hp z1 z2 z3 => ?_)
          have u4 := u1.frm z3 (by omega)
          simp only [u_80_55, pm_O_some, pm_w_nil, pm_w_i, pm_w_l, pm_w_r, pm_w_n, pm_c_n, pm_c_i, pm_c_l, pm_c_r, pm_c_u, Nat.reduceAdd, Nat.reduceLeDiff, true_and, Option.toList_some, Option.toList_none, List.cons_append, List.nil_append, u4.io]
          refine c_fcopy u4 z1 (by omega) (fun hC v1 v2 => ?_)
          simp only [u_80_58, u_80_61, pm_O_some, pm_w_nil, pm_w_i, pm_w_l, pm_w_r, pm_w_n, pm_c_n, pm_c_i, pm_c_l, pm_c_r, pm_c_u, Nat.reduceAdd, Nat.reduceLeDiff, true_and, Option.toList_some, Option.toList_none, List.cons_append, List.nil_append, nI_1]
          have hnq : wq (LM (bs i) nr sz tm a).1 (GM (bs i) nr sz tm a).1 w = nq (bs i) nr sz tm a := by
            unfold nq
            rw [hw]
            by_cases z : a = 2
            · rw [if_pos z, if_pos z, z]
              rfl
            · rw [if_neg z, if_neg z]
          rw [hnq] at v1
          have hsm : sml (nq (bs i) nr sz tm a) := by rw [← hnq]; exact sml_wq z2.2.2.2.2.2.1 z2.2.2.2.2.2.2.1
          have o1 : CC B hB n bs ln tx nr sz tm nd dy nl lm ll jk := ⟨y1.1.frm z3 (by omega), y1.2.ex z3 z2⟩
          refine ih (a + 1) hC _ (by omega) ⟨o1.1.frm v2 (by omega), o1.2.ndd ha3 v2 v1⟩ (fun j hj => ?_) (((m3.trans (Kp.of y3 (by omega))).trans (Kp.of z3 (by omega))).trans (Kp.of v2 (by omega)))
          by_cases hja : j = a
          · subst hja
            exact ⟨v1, hsm⟩
          · have := m2 j (by omega)
            exact ⟨((this.1.frm y3 (by omega)).frm z3 (by omega)).frm v2 (by omega), this.2⟩
        by_cases z : a = 2
        · have z1 : nI a = 2 := by rw [z]; rfl
          have := fin 1 (by rw [if_pos z])
          simp only [u_80_32, u_80_32n, u_80_33, u_80_36, u_80_37, u_80_38, u_80_38n, u_80_39, u_80_42, pm_O_some, pm_w_nil, pm_w_i, pm_w_l, pm_w_r, pm_w_n, pm_c_n, pm_c_i, pm_c_l, pm_c_r, pm_c_u, Nat.reduceAdd, Nat.reduceLeDiff, true_and, Option.toList_some, Option.toList_none, List.cons_append, List.nil_append, t1, gf_0_9, gf_0_7, u2, ld_a (k := 1) K rfl, nI_clamp (show a < 2 ^ 31 by omega), u3, va_rf]
          simp only [u_80_43, u_80_44, u_80_47, u_80_48, pm_O_some, pm_w_nil, pm_w_i, pm_w_l, pm_w_r, pm_w_n, pm_c_n, pm_c_i, pm_c_l, pm_c_r, pm_c_u, Nat.reduceAdd, Nat.reduceLeDiff, true_and, Option.toList_some, Option.toList_none, List.cons_append, List.nil_append, z1, not_true, if_false]
          rw [z1] at this
          exact this
        · have z1 : ¬ nI a = 2 := fun c => z ((nI_eq (b := 2) (by omega) (by decide)).mp c)
          have := fin 2 (by rw [if_neg z])
          simp only [u_80_32, u_80_32n, u_80_33, u_80_36, u_80_37, u_80_38, u_80_38n, u_80_39, u_80_42, u_80_43, u_80_44, u_80_47, u_80_48, u_80_51, pm_O_some, pm_w_nil, pm_w_i, pm_w_l, pm_w_r, pm_w_n, pm_c_n, pm_c_i, pm_c_l, pm_c_r, pm_c_u, Nat.reduceAdd, Nat.reduceLeDiff, true_and, Option.toList_some, Option.toList_none, List.cons_append, List.nil_append, t1, gf_0_9, gf_0_7, u2, ld_a (k := 1) K rfl, nI_clamp (show a < 2 ^ 31 by omega), u3, va_rf, z1, not_false_eq_true, if_true]
          exact this
    simp only [u_80_0, u_80_0n, u_80_1, u_80_2, u_80_5, u_80_5n, u_80_6, u_80_6n, u_80_7, u_80_7n, u_80_10, u_80_11, u_80_12, u_80_13, pm_O_some, pm_w_nil, pm_w_i, pm_w_l, pm_w_r, pm_w_n, pm_c_n, pm_c_i, pm_c_l, pm_c_r, pm_c_u, Nat.reduceAdd, Nat.reduceLeDiff, true_and, Option.toList_some, Option.toList_none, List.cons_append, List.nil_append, cf.io, s_find_t cf e2]
    exact loop1 3 0 h _ (by omega) n1 (fun j hj => by omega) Kp.rfl'
  · simp only [u_80_0, u_80_0n, u_80_1, u_80_2, u_80_5, u_80_5n, u_80_6, u_80_6n, u_80_7, u_80_7n, u_80_10, u_80_11, pm_O_some, pm_w_nil, pm_w_i, pm_w_l, pm_w_r, pm_w_n, pm_c_n, pm_c_i, pm_c_l, pm_c_r, pm_c_u, Nat.reduceAdd, Nat.reduceLeDiff, true_and, Option.toList_some, Option.toList_none, List.cons_append, List.nil_append, cf.io, s_find_f cf h1]
    exact hb h1
end BE2

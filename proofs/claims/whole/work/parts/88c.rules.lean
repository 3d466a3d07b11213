/-! THE REFERENCE'S PARSER: readRule, rules. -/
def DR (fd fr : Nat → Int32) (r : Nat) (sz : Nat → Nat) (tm : Nat → Nat → Tm) : Prop := ∀ k, k < r → fd k = nI (sz k) ∧ sz k ≤ 6 ∧ ∀ t, t < sz k → trw fr (4 * (6 * k + t)) (tm k t)
theorem DR.step {fd fr fr' : Nat → Int32} {r s : Nat} {sz : Nat → Nat} {tm : Nat → Nat → Tm} {T : Tm} (d : DR fd fr (r + 1) sz tm) (hs : sz r = s) (h6 : s < 6) (ht : trw fr' (4 * (6 * r + s)) T) (ho : ∀ j, ¬ (4 * (6 * r + s) ≤ j ∧ j < 4 * (6 * r + s) + 4) → fr' j = fr j) : DR (upd fd r (nI (s + 1))) fr' (r + 1) (ups sz r (s + 1)) (ups tm r (ups (tm r) s T)) := by
  intro k hk
  by_cases c : k = r
  · subst c
    rw [upd_s, ups_s, ups_s]
    refine ⟨rfl, by omega, fun t htt => ?_⟩
    by_cases c2 : t = s
    · subst c2
      rw [ups_s]
      exact ht
    · rw [ups_n c2]
      obtain ⟨a1, a2, a3, a4⟩ := (d k hk).2.2 t (by omega)
      exact ⟨(ho _ (by omega)).trans a1, (ho _ (by omega)).trans a2, (ho _ (by omega)).trans a3, (ho _ (by omega)).trans a4⟩
  · rw [upd_n c, ups_n c, ups_n c]
    obtain ⟨e1, e2, e3⟩ := d k hk
    refine ⟨e1, e2, fun t htt => ?_⟩
    obtain ⟨a1, a2, a3, a4⟩ := e3 t htt
    exact ⟨(ho _ (by omega)).trans a1, (ho _ (by omega)).trans a2, (ho _ (by omega)).trans a3, (ho _ (by omega)).trans a4⟩
theorem DR.new {fd fr : Nat → Int32} {r : Nat} {sz : Nat → Nat} {tm : Nat → Nat → Tm} (d : DR fd fr r sz tm) : DR (upd fd r 0) fr (r + 1) (ups sz r 0) tm := by
  intro k hk
  by_cases c : k = r
  · subst c
    rw [upd_s, ups_s]
    exact ⟨rfl, by omega, fun t ht => by omega⟩
  · rw [upd_n c, ups_n c]
    exact d k (by omega)
section PRR
variable {B : Nat} {X : pm_X} {h h' h2 : pm_H} {Q : Option Value → pm_H → Prop} {m ln p p2 r k d s : Nat} {tx sz : Nat → Nat} {tm : Nat → Nat → Tm} {x0 x10 x19 x21 x24 x25 x31 x32 w w2 v : Int32} {fd fr fd2 fr2 : Nat → Int32}
theorem p_rule (n1 : PS B h m ln tx x0 x10 x19 x21 x24 x25 x31 x32 p (-1) r fd fr) (hr : r ≤ 8) (dr : DR fd fr r sz tm)
    (hb : ∀ w r' h', (r = 8 ∧ w = sk tx ln p ∨ ¬ r = 8 ∧ rul tx ln 7 r 0 (sk tx ln p) (ups sz r 0) tm = .inl w) → PF B h' m ln tx x0 x10 x19 x21 x24 x25 x31 x32 w r' → Frz B h h' m → Q none h')
    (hg : r < 8 → ∀ q sz' tm' h' fd' fr', rul tx ln 7 r 0 (sk tx ln p) (ups sz r 0) tm = .inr (q, sz', tm') → PS B h' m ln tx x0 x10 x19 x21 x24 x25 x31 x32 q (-1) (r + 1) fd' fr' → DR fd' fr' (r + 1) sz' tm' → Frz B h h' m → Q none h') :
    PW B X 100 0 [some (.ref m), none] [] h Q := by
  have nn : ¬ (0 : Int32) ≤ -1 := by decide
  have b8 := n1.2.2.2.2.2.2.2.1
  have b9 := n1.2.2.2.2.2.2.2.2
  simp only [u_100_0, u_100_0n, u_100_1, pm_O_some, pm_w_nil, pm_w_i, pm_w_l, pm_w_r, pm_w_n, pm_c_n, pm_c_i, pm_c_l, pm_c_r, pm_c_u, Nat.reduceAdd, Nat.reduceLeDiff, true_and, Option.toList_some, Option.toList_none, List.cons_append, List.nil_append, n1.io]
  refine p_skip n1 (fun h1 m1 F1 => ?_)
  have hsk : sk tx ln (sk tx ln p) = sk tx ln p := sk_sk
  generalize sk tx ln p = p1 at *
  have q1 := m1.2.2.2.2.2.2.1
  by_cases c8 : r = 8
  · have e8 : ¬ ¬ nI r = 8 := fun z => z (by rw [c8]; rfl)
    simp only [u_100_4, u_100_4n, u_100_5, u_100_8, u_100_10, u_100_13, u_100_13n, u_100_14, u_100_14n, u_100_15, u_100_18, pm_O_some, pm_w_nil, pm_w_i, pm_w_l, pm_w_r, pm_w_n, pm_c_n, pm_c_i, pm_c_l, pm_c_r, pm_c_u, Nat.reduceAdd, Nat.reduceLeDiff, true_and, Option.toList_some, Option.toList_none, List.cons_append, List.nil_append, m1.1.g13, m1.1.g8, m1.io, if_neg e8]
    refine p_mark m1 (fun h2 m2 F2 => ?_)
    rw [if_neg nn] at m2
    simp only [u_100_21, pm_O_some, pm_w_nil, pm_w_i, pm_w_l, pm_w_r, pm_w_n, pm_c_n, pm_c_i, pm_c_l, pm_c_r, pm_c_u, Nat.reduceAdd, Nat.reduceLeDiff, true_and, Option.toList_some, Option.toList_none, List.cons_append, List.nil_append]
    exact hb p1 r h2 (Or.inl ⟨c8, rfl⟩) ⟨by omega, _, _, _, m2⟩ (F1.trans F2)
  have e8 : ¬ nI r = 8 := fun z => c8 ((nI_eq (b := 8) (by omega) (by decide)).mp z)
  have hr8 : r < 8 := by omega
  generalize hRES : rul tx ln 7 r 0 p1 (ups sz r 0) tm = RES at *
  have loop : ∀ f s p hc fd fr sz tm, f + s = 6 → sk tx ln p = p → PS B hc m ln tx x0 x10 x19 x21 x24 x25 x31 x32 p (-1) r fd fr → fd r = nI s → sz r = s → DR fd fr (r + 1) sz tm → rul tx ln (f + 1) r s p sz tm = RES → Frz B h hc m → PW B X 100 34 [some (.ref m), some (.int 1)] [] hc Q := by
    intro f
    induction f with
    | zero =>
      intro s p hc fd fr sz tm hf hps mm hfd hsz dd hR F
      rw [u_100_34]
      simp only [u_100_35, u_100_38, u_100_38n, u_100_39, pm_O_some, pm_w_nil, pm_w_i, pm_w_l, pm_w_r, pm_w_n, pm_c_n, pm_c_i, pm_c_l, pm_c_r, pm_c_u, Nat.reduceAdd, Nat.reduceLeDiff, true_and, Option.toList_some, Option.toList_none, List.cons_append, List.nil_append, i10, if_false, mm.io]
      rw [rul, if_pos (by omega)] at hR
      refine p_term mm hr8 hfd (by omega) (fun w h2 hw pf F2 => ?_) (fun hs => by omega)
      obtain ⟨pw, p', fd', fr', m2⟩ := pf
      have hw2 : w = p := by
        rcases hw with z | z
        · rw [z.2, hps]
        · omega
      simp only [u_100_42, u_100_42n, u_100_43, u_100_46, u_100_73, u_100_74, u_100_75, pm_O_some, pm_w_nil, pm_w_i, pm_w_l, pm_w_r, pm_w_n, pm_c_n, pm_c_i, pm_c_l, pm_c_r, pm_c_u, Nat.reduceAdd, Nat.reduceLeDiff, true_and, Option.toList_some, Option.toList_none, List.cons_append, List.nil_append, m2.1.g9, if_pos (nI_ge0 (show w < 2 ^ 31 by omega))]
      simp only [u_100_34, u_100_35, u_100_78, u_100_78n, u_100_79, u_100_79i, u_100_80, u_100_83, u_100_84, u_100_85, pm_O_some, pm_w_nil, pm_w_i, pm_w_l, pm_w_r, pm_w_n, pm_c_n, pm_c_i, pm_c_l, pm_c_r, pm_c_u, Nat.reduceAdd, Nat.reduceLeDiff, true_and, Option.toList_some, Option.toList_none, List.cons_append, List.nil_append, i00, if_true, m2.1.g13, nI_1, m2.1.p13]
      obtain ⟨c3, F3⟩ := m2.1.s13 (v := nI (r + 1))
      simp only [u_100_88, pm_O_some, pm_w_nil, pm_w_i, pm_w_l, pm_w_r, pm_w_n, pm_c_n, pm_c_i, pm_c_l, pm_c_r, pm_c_u, Nat.reduceAdd, Nat.reduceLeDiff, true_and, Option.toList_some, Option.toList_none, List.cons_append, List.nil_append]
      exact hb w (r + 1) _ (Or.inr ⟨c8, by rw [← hR, hw2]⟩) ⟨pw, _, _, _, m2.obj F3 c3 m2.2.2.2.2.2.2.1⟩ ((F.trans F2).trans F3.zo)
    | succ f ih =>
      intro s p hc fd fr sz tm hf hps mm hfd hsz dd hR F
      rw [u_100_34]
      simp only [u_100_35, u_100_38, u_100_38n, u_100_39, pm_O_some, pm_w_nil, pm_w_i, pm_w_l, pm_w_r, pm_w_n, pm_c_n, pm_c_i, pm_c_l, pm_c_r, pm_c_u, Nat.reduceAdd, Nat.reduceLeDiff, true_and, Option.toList_some, Option.toList_none, List.cons_append, List.nil_append, i10, if_false, mm.io]
      rw [rul, if_neg (by omega)] at hR
      refine p_term mm hr8 hfd (by omega) (fun w h2 hw pf F2 => ?_) (fun hs T q h2 fr' ht m2 t1 t2 F2 => ?_)
      · obtain ⟨pw, p', fd', fr', m2⟩ := pf
        have hw2 : trm tx ln p = .inl w := by
          rcases hw with z | z
          · omega
          · rw [hps] at z
            exact z.2
        rw [hw2] at hR
        simp only [u_100_42, u_100_42n, u_100_43, u_100_46, u_100_73, u_100_74, u_100_75, pm_O_some, pm_w_nil, pm_w_i, pm_w_l, pm_w_r, pm_w_n, pm_c_n, pm_c_i, pm_c_l, pm_c_r, pm_c_u, Nat.reduceAdd, Nat.reduceLeDiff, true_and, Option.toList_some, Option.toList_none, List.cons_append, List.nil_append, m2.1.g9, if_pos (nI_ge0 (show w < 2 ^ 31 by omega))]
        simp only [u_100_34, u_100_35, u_100_78, u_100_78n, u_100_79, u_100_79i, u_100_80, u_100_83, u_100_84, u_100_85, pm_O_some, pm_w_nil, pm_w_i, pm_w_l, pm_w_r, pm_w_n, pm_c_n, pm_c_i, pm_c_l, pm_c_r, pm_c_u, Nat.reduceAdd, Nat.reduceLeDiff, true_and, Option.toList_some, Option.toList_none, List.cons_append, List.nil_append, i00, if_true, m2.1.g13, nI_1, m2.1.p13]
        obtain ⟨c3, F3⟩ := m2.1.s13 (v := nI (r + 1))
        simp only [u_100_88, pm_O_some, pm_w_nil, pm_w_i, pm_w_l, pm_w_r, pm_w_n, pm_c_n, pm_c_i, pm_c_l, pm_c_r, pm_c_u, Nat.reduceAdd, Nat.reduceLeDiff, true_and, Option.toList_some, Option.toList_none, List.cons_append, List.nil_append]
        exact hb w (r + 1) _ (Or.inr ⟨c8, hR.symm⟩) ⟨pw, _, _, _, m2.obj F3 c3 m2.2.2.2.2.2.2.1⟩ ((F.trans F2).trans F3.zo)
      · rw [hps] at ht
        rw [ht] at hR
        simp only at hR
        have d2 := dd.step hsz hs t1 t2
        have q2 := m2.2.2.2.2.2.2.1
        have hsk2 : sk tx ln (sk tx ln q) = sk tx ln q := sk_sk
        generalize sk tx ln q = p2 at *
        -- the rule ends here
        have endR : ¬ (p2 < ln ∧ ¬ tx p2 = 59) → PW B X 100 73 [some (.ref m), some (.int 1)] [] h2 Q := by
          intro z
          rw [if_neg z] at hR
          simp only [u_100_73, u_100_74, u_100_75, pm_O_some, pm_w_nil, pm_w_i, pm_w_l, pm_w_r, pm_w_n, pm_c_n, pm_c_i, pm_c_l, pm_c_r, pm_c_u, Nat.reduceAdd, Nat.reduceLeDiff, true_and, Option.toList_some, Option.toList_none, List.cons_append, List.nil_append]
          simp only [u_100_34, u_100_35, u_100_78, u_100_78n, u_100_79, u_100_79i, u_100_80, u_100_83, u_100_84, u_100_85, pm_O_some, pm_w_nil, pm_w_i, pm_w_l, pm_w_r, pm_w_n, pm_c_n, pm_c_i, pm_c_l, pm_c_r, pm_c_u, Nat.reduceAdd, Nat.reduceLeDiff, true_and, Option.toList_some, Option.toList_none, List.cons_append, List.nil_append, i00, if_true, m2.1.g13, nI_1, m2.1.p13]
          obtain ⟨c3, F3⟩ := m2.1.s13 (v := nI (r + 1))
          simp only [u_100_88, pm_O_some, pm_w_nil, pm_w_i, pm_w_l, pm_w_r, pm_w_n, pm_c_n, pm_c_i, pm_c_l, pm_c_r, pm_c_u, Nat.reduceAdd, Nat.reduceLeDiff, true_and, Option.toList_some, Option.toList_none, List.cons_append, List.nil_append]
          exact hg hr8 _ _ _ _ _ _ hR.symm (m2.obj F3 c3 q2) d2 ((F.trans F2).trans F3.zo)
        by_cases c1 : p2 < ln
        · have e1 : ¬ nI ln ≤ nI p2 := nI_ge c1 (by omega)
          have el : lk tx ln p2 = tx p2 := if_pos c1
          have hb9 := b9 p2 c1
          by_cases c2 : tx p2 = 59
          · have e2 : nI (tx p2) = 59 := by rw [c2]; rfl
            simp only [u_100_42, u_100_42n, u_100_43, u_100_46, u_100_49, u_100_49n, u_100_50, u_100_53, u_100_53n, u_100_54, u_100_57, u_100_60, u_100_60n, u_100_61, u_100_64, u_100_66, pm_O_some, pm_w_nil, pm_w_i, pm_w_l, pm_w_r, pm_w_n, pm_c_n, pm_c_i, pm_c_l, pm_c_r, pm_c_u, Nat.reduceAdd, Nat.reduceLeDiff, true_and, Option.toList_some, Option.toList_none, List.cons_append, List.nil_append, m2.1.g9, if_neg nn, m2.1.g8, m2.1.g7, if_neg e1, m2.io, p_look m2, el, if_pos e2]
            exact endR (fun z => z.2 c2)
          · have e2 : ¬ nI (tx p2) = 59 := fun z => c2 ((nI_eq (b := 59) (by omega) (by decide)).mp z)
            simp only [u_100_42, u_100_42n, u_100_43, u_100_46, u_100_49, u_100_49n, u_100_50, u_100_53, u_100_53n, u_100_54, u_100_57, u_100_60, u_100_60n, u_100_61, u_100_64, u_100_66, u_100_69, u_100_70, u_100_73, u_100_74, u_100_75, pm_O_some, pm_w_nil, pm_w_i, pm_w_l, pm_w_r, pm_w_n, pm_c_n, pm_c_i, pm_c_l, pm_c_r, pm_c_u, Nat.reduceAdd, Nat.reduceLeDiff, true_and, Option.toList_some, Option.toList_none, List.cons_append, List.nil_append, m2.1.g9, if_neg nn, m2.1.g8, m2.1.g7, if_neg e1, m2.io, p_look m2, el, if_neg e2]
            rw [if_pos ⟨c1, c2⟩] at hR
            exact ih (s + 1) p2 h2 _ _ _ _ (by omega) hsk2 m2 upd_s ups_s d2 hR (F.trans F2)
        · have e1 : nI ln ≤ nI p2 := nI_le (by omega) (by omega)
          simp only [u_100_42, u_100_42n, u_100_43, u_100_46, u_100_49, u_100_49n, u_100_50, u_100_53, u_100_53n, u_100_54, u_100_57, pm_O_some, pm_w_nil, pm_w_i, pm_w_l, pm_w_r, pm_w_n, pm_c_n, pm_c_i, pm_c_l, pm_c_r, pm_c_u, Nat.reduceAdd, Nat.reduceLeDiff, true_and, Option.toList_some, Option.toList_none, List.cons_append, List.nil_append, m2.1.g9, if_neg nn, m2.1.g8, m2.1.g7, if_pos e1]
          exact endR (fun z => c1 z.1)
  have b5 := m1.2.2.2.2.1
  simp only [u_100_4, u_100_4n, u_100_5, u_100_8, u_100_10, u_100_22, u_100_22n, u_100_23, u_100_26, u_100_26n, u_100_27, u_100_30, u_100_31, pm_O_some, pm_w_nil, pm_w_i, pm_w_l, pm_w_r, pm_w_n, pm_c_n, pm_c_i, pm_c_l, pm_c_r, pm_c_u, Nat.reduceAdd, Nat.reduceLeDiff, true_and, Option.toList_some, Option.toList_none, List.cons_append, List.nil_append, m1.1.g13, m1.1.g14, if_pos e8, b5, st_i (t := 0) (ix_8 hr8) rfl, nI_clamp (show r < 2 ^ 31 by omega), ty_0]
  obtain ⟨m2, F2⟩ := m1.put9 (upd fd r 0)
  simp only [u_100_32, u_100_33, pm_O_some, pm_w_nil, pm_w_i, pm_w_l, pm_w_r, pm_w_n, pm_c_n, pm_c_i, pm_c_l, pm_c_r, pm_c_u, Nat.reduceAdd, Nat.reduceLeDiff, true_and, Option.toList_some, Option.toList_none, List.cons_append, List.nil_append]
  exact loop 6 0 p1 _ _ _ _ _ (by omega) hsk m2 upd_s ups_s dr.new hRES (F1.trans F2)
end PRR
section PRS
variable {B : Nat} {X : pm_X} {h h' h2 : pm_H} {Q : Option Value → pm_H → Prop} {m lo hi n ln nr nr' nd nl i : Nat} {bs : Nat → Bg} {tx sz sz' lm ll : Nat → Nat} {tm tm' : Nat → Nat → Tm} {dy : Nat → Int} {jk : Option (Nat × Nat)}
theorem MI.frz {y8 y9 y13 jh jm y31 y32 : Int32} (n1 : MI B h m n bs ln tx nr sz tm nd dy nl lm ll jk) (T : ∀ q, ¬ q = m → ¬ (m + 7 ≤ q ∧ q < m + 11) → pm_at B h' q = pm_at B h q) (c : MC B h' m (nI n) (nI 0) y8 y9 (nI nr') y13 (nI nd) (nI nl) jh jm y31 y32) (cj : JM jk jh jm) (r : MBr B h' m nr' sz' tm') (d : MWd B h' m) : MI B h' m n bs 0 tx nr' sz' tm' nd dy nl lm ll jk := by
  obtain ⟨_, ⟨f1, f2, a1, a2, a3⟩, ⟨f3, a4, a5⟩, ⟨f4, f5, a6, a7, a8⟩, ⟨f6, a9, a10⟩, _, ⟨f9, f10, f11, a14, a15, a16, a17⟩, ⟨f12, a18, a19⟩, ⟨f13, f14, a20, a21, a22⟩, _, ⟨f17, a25⟩, ⟨f18, a26⟩, R, ⟨fl, fu, fs, fw, ⟨_, ⟨fp, p1, p2⟩, b1, b2, b3, b4⟩, n3⟩⟩ := n1
  exact ⟨⟨_, _, _, _, _, _, _, c, cj⟩, ⟨f1, f2, (T _ (by omega) (by omega)).trans a1, (T _ (by omega) (by omega)).trans a2, a3⟩, ⟨f3, (T _ (by omega) (by omega)).trans a4, a5⟩, ⟨f4, f5, (T _ (by omega) (by omega)).trans a6, (T _ (by omega) (by omega)).trans a7, a8⟩, ⟨f6, (T _ (by omega) (by omega)).trans a9, fun i hi => by omega⟩, r, ⟨f9, f10, f11, (T _ (by omega) (by omega)).trans a14, (T _ (by omega) (by omega)).trans a15, (T _ (by omega) (by omega)).trans a16, a17⟩, ⟨f12, (T _ (by omega) (by omega)).trans a18, a19⟩, ⟨f13, f14, (T _ (by omega) (by omega)).trans a20, (T _ (by omega) (by omega)).trans a21, a22⟩, d, ⟨f17, (T _ (by omega) (by omega)).trans a25⟩, ⟨f18, (T _ (by omega) (by omega)).trans a26⟩, R, ⟨fl, fu, fs, fw, ⟨⟨_, _, _, _, _, _, _, _, _, _, _, _, c⟩, ⟨fp, (T _ (by omega) (by omega)).trans p1, p2⟩, (T _ (by omega) (by omega)).trans b1, (T _ (by omega) (by omega)).trans b2, (T _ (by omega) (by omega)).trans b3, (T _ (by omega) (by omega)).trans b4⟩, n3⟩⟩
theorem r_rules (so : SO n bs ln tx nr sz tm nd dy nl lm ll jk) (n1 : MI B h m n bs ln tx nr sz tm nd dy nl lm ll jk)
    (hg : ∀ nr' sz' tm' h', prs0 tx ln = .inr (nr', sz', tm') → MI B h' m n bs 0 tx nr' sz' tm' nd dy nl lm ll jk → Frm B h h' m (m + 24) → Q (some (.int (nI nr'))) h')
    (hb : ∀ w h', prs0 tx ln = .inl w → MI B h' m n bs 0 tx nr sz tm nd dy nl lm ll jk → Frm B h h' m (m + 24) → Q (some (.int (-1 - nI w))) h') :
    PW B X 99 0 [some (.ref m), none, none] [] h Q := by
  have nn : ¬ (0 : Int32) ≤ -1 := by decide
  have hso := so.2.1
  obtain ⟨⟨x8, x9, x13, jh, jm, x31, x32, c, cj⟩, a2, a3, a4, ⟨ft, d1, d2⟩, ⟨fn, fo, d3, d4, d5⟩, a7, a8, a9, ⟨fd, fr, d6, d7⟩, a11, a12, a13⟩ := id n1
  unfold prs0 at hg hb
  simp only [u_99_0, u_99_0n, u_99_1, u_99_2, pm_O_some, pm_w_nil, pm_w_i, pm_w_l, pm_w_r, pm_w_n, pm_c_n, pm_c_i, pm_c_l, pm_c_r, pm_c_u, Nat.reduceAdd, Nat.reduceLeDiff, true_and, Option.toList_some, Option.toList_none, List.cons_append, List.nil_append, c.p8]
  obtain ⟨c1, F1⟩ := c.s8 (v := 0)
  simp only [u_99_5, u_99_5n, u_99_6, u_99_7, pm_O_some, pm_w_nil, pm_w_i, pm_w_l, pm_w_r, pm_w_n, pm_c_n, pm_c_i, pm_c_l, pm_c_r, pm_c_u, Nat.reduceAdd, Nat.reduceLeDiff, true_and, Option.toList_some, Option.toList_none, List.cons_append, List.nil_append, c1.p9]
  obtain ⟨c2, F2⟩ := c1.s9 (v := -1)
  simp only [u_99_10, u_99_10n, u_99_11, u_99_12, pm_O_some, pm_w_nil, pm_w_i, pm_w_l, pm_w_r, pm_w_n, pm_c_n, pm_c_i, pm_c_l, pm_c_r, pm_c_u, Nat.reduceAdd, Nat.reduceLeDiff, true_and, Option.toList_some, Option.toList_none, List.cons_append, List.nil_append, c2.p13]
  obtain ⟨c3, F3⟩ := c2.s13 (v := 0)
  have G3 : Frm B h _ m (m + 1) := (F1.trans F2).trans F3
  have ps0 : PS B _ m ln tx (nI n) (nI nr) (nI nd) (nI nl) jh jm x31 x32 0 (-1) 0 fd fr := ⟨c3, ⟨ft, (G3.2.2 _ (by omega)).trans d1, d2⟩, ⟨_, (G3.2.2 _ (by omega)).trans d3⟩, ⟨_, (G3.2.2 _ (by omega)).trans d4⟩, (G3.2.2 _ (by omega)).trans d6, (G3.2.2 _ (by omega)).trans d7, by omega, hso.1, hso.2⟩
  simp only [u_99_15, u_99_16, pm_O_some, pm_w_nil, pm_w_i, pm_w_l, pm_w_r, pm_w_n, pm_c_n, pm_c_i, pm_c_l, pm_c_r, pm_c_u, Nat.reduceAdd, Nat.reduceLeDiff, true_and, Option.toList_some, Option.toList_none, List.cons_append, List.nil_append]
  generalize hRES : prs tx ln 9 0 0 (fun _ => 0) (fun _ _ => (0, 0, 0, 0)) = RES at *
  have endB : ∀ w r' hc, RES = .inl w → PF B hc m ln tx (nI n) (nI nr) (nI nd) (nI nl) jh jm x31 x32 w r' → Frz B h hc m → PW B X 99 25 [some (.ref m), some (.int 1), none] [] hc Q := by
    intro w r' hc hR pf F
    obtain ⟨pw, p', fd', fr', m2⟩ := pf
    have hw : nI w < 0 ↔ False := ⟨fun z => nI_pos (by omega) z, False.elim⟩
    simp only [u_99_25, u_99_25n, u_99_26, u_99_29, u_99_45, u_99_46, u_99_47, u_99_48, pm_O_some, pm_w_nil, pm_w_i, pm_w_l, pm_w_r, pm_w_n, pm_c_n, pm_c_i, pm_c_l, pm_c_r, pm_c_u, Nat.reduceAdd, Nat.reduceLeDiff, true_and, Option.toList_some, Option.toList_none, List.cons_append, List.nil_append, m2.1.g9, if_pos (nI_ge0 (show w < 2 ^ 31 by omega)), i00, if_true]
    simp only [u_99_17, u_99_18, u_99_64, u_99_64n, u_99_65, u_99_66, pm_O_some, pm_w_nil, pm_w_i, pm_w_l, pm_w_r, pm_w_n, pm_c_n, pm_c_i, pm_c_l, pm_c_r, pm_c_u, Nat.reduceAdd, Nat.reduceLeDiff, true_and, Option.toList_some, Option.toList_none, List.cons_append, List.nil_append, i00, if_true, m2.1.p7]
    obtain ⟨c4, F4⟩ := m2.1.s7 (v := 0)
    simp only [u_99_69, u_99_69n, u_99_70, u_99_73, u_99_76, u_99_77, u_99_77n, u_99_78, u_99_81, u_99_82, pm_O_some, pm_w_nil, pm_w_i, pm_w_l, pm_w_r, pm_w_n, pm_c_n, pm_c_i, pm_c_l, pm_c_r, pm_c_u, Nat.reduceAdd, Nat.reduceLeDiff, true_and, Option.toList_some, Option.toList_none, List.cons_append, List.nil_append, c4.g9, if_neg (nI_pos (show w < 2 ^ 31 by omega))]
    have T : ∀ q, ¬ q = m → ¬ (m + 9 ≤ q ∧ q < m + 11) → pm_at B _ q = pm_at B h q := fun q h1 h2 => (F4.2.2 q (by omega)).trans (F.2.2 q h1 h2)
    refine hb w _ hR (n1.frz (fun q h1 h2 => T q h1 (by omega)) c4 cj ⟨fn, fo, (T _ (by omega) (by omega)).trans d3, (T _ (by omega) (by omega)).trans d4, d5⟩ ⟨fd', fr', (F4.2.2 _ (by omega)).trans m2.2.2.2.2.1, (F4.2.2 _ (by omega)).trans m2.2.2.2.2.2.1⟩) ⟨F4.1.trans F.1, F4.2.1.trans F.2.1, fun q hq => T q (by omega) (by omega)⟩
  have endG : ∀ r q sz' tm' fd' fr' hc, r < 8 → RES = .inr (r + 1, sz', tm') → PS B hc m ln tx (nI n) (nI nr) (nI nd) (nI nl) jh jm x31 x32 q (-1) (r + 1) fd' fr' → DR fd' fr' (r + 1) sz' tm' → Frz B h hc m → PW B X 99 64 [some (.ref m), some (.int 0), none] [] hc Q := by
    intro r q sz' tm' fd' fr' hc hr hR m2 dr F
    simp only [u_99_64, u_99_64n, u_99_65, u_99_66, pm_O_some, pm_w_nil, pm_w_i, pm_w_l, pm_w_r, pm_w_n, pm_c_n, pm_c_i, pm_c_l, pm_c_r, pm_c_u, Nat.reduceAdd, Nat.reduceLeDiff, true_and, Option.toList_some, Option.toList_none, List.cons_append, List.nil_append, m2.1.p7]
    obtain ⟨c4, F4⟩ := m2.1.s7 (v := 0)
    have e0 : (-1 : Int32) < 0 := by decide
    simp only [u_99_69, u_99_69n, u_99_70, u_99_73, u_99_83, u_99_83n, u_99_84, u_99_84n, u_99_85, u_99_88, pm_O_some, pm_w_nil, pm_w_i, pm_w_l, pm_w_r, pm_w_n, pm_c_n, pm_c_i, pm_c_l, pm_c_r, pm_c_u, Nat.reduceAdd, Nat.reduceLeDiff, true_and, Option.toList_some, Option.toList_none, List.cons_append, List.nil_append, c4.g9, if_pos e0, c4.g13, c4.p10]
    obtain ⟨c5, F5⟩ := c4.s10 (v := nI (r + 1))
    simp only [u_99_91, u_99_92, pm_O_some, pm_w_nil, pm_w_i, pm_w_l, pm_w_r, pm_w_n, pm_c_n, pm_c_i, pm_c_l, pm_c_r, pm_c_u, Nat.reduceAdd, Nat.reduceLeDiff, true_and, Option.toList_some, Option.toList_none, List.cons_append, List.nil_append]
    have G5 : Frm B hc _ m (m + 1) := F4.trans F5
    obtain ⟨_, _, ⟨f7, e7⟩, ⟨f8, e8⟩, e9, e10, _⟩ := m2
    have T5 : ∀ q, ¬ q = m → ¬ (m + 7 ≤ q ∧ q < m + 11) → pm_at B _ q = pm_at B h q := fun q h1 h2 => (G5.2.2 q (by omega)).trans (F.2.2 q h1 (by omega))
    have L5 := G5.1.trans F.1
    have S5 := G5.2.1.trans F.2.1
    replace e7 := (G5.2.2 (m + 7) (by omega)).trans e7
    replace e8 := (G5.2.2 (m + 8) (by omega)).trans e8
    replace e9 := (G5.2.2 (m + 9) (by omega)).trans e9
    replace e10 := (G5.2.2 (m + 10) (by omega)).trans e10
    have loop2 : ∀ d k hd g7 g8, k + d = 192 → MC B hd m (nI n) 0 (nI q) (-1) (nI (r + 1)) (nI (r + 1)) (nI nd) (nI nl) jh jm x31 x32 → pm_at B hd (m + 7) = some (.inl (0, 8, .inl g7)) → pm_at B hd (m + 8) = some (.inl (0, 192, .inl g8)) → pm_at B hd (m + 9) = some (.inl (0, 8, .inl fd')) → pm_at B hd (m + 10) = some (.inl (0, 192, .inl fr')) → (∀ j, j < 8 → g7 j = fd' j) → (∀ j, j < k → g8 j = fr' j) → (∀ q, ¬ q = m → ¬ (m + 7 ≤ q ∧ q < m + 11) → pm_at B hd q = pm_at B h q) → hd.length = h.length → pm_sl hd = pm_sl h → PW B X 99 119 [some (.ref m), some (.int 0), some (.int (nI k))] [] hd Q := by
      intro d
      induction d with
      | zero =>
        intro k hd g7 g8 hk cc k7 k8 k9 k10 j7 j8 T L S
        obtain rfl : k = 192 := by omega
        have e1 : (192 : Int32) ≤ nI 192 := by decide
        simp only [u_99_119, u_99_120, u_99_123, u_99_144, u_99_144n, u_99_145, u_99_148, pm_O_some, pm_w_nil, pm_w_i, pm_w_l, pm_w_r, pm_w_n, pm_c_n, pm_c_i, pm_c_l, pm_c_r, pm_c_u, Nat.reduceAdd, Nat.reduceLeDiff, true_and, Option.toList_some, Option.toList_none, List.cons_append, List.nil_append, if_pos e1, cc.g10]
        refine hg (r + 1) sz' tm' hd hR (n1.frz T cc cj ⟨g7, g8, k7, k8, fun k hk => ?_⟩ ⟨fd', fr', k9, k10⟩) ⟨L, S, fun q hq => T q (by omega) (by omega)⟩
        obtain ⟨u1, u2, u3⟩ := dr k hk
        refine ⟨(j7 k (by omega)).trans u1, fun t ht => ?_⟩
        obtain ⟨w1, w2, w3, w4⟩ := u3 t ht
        exact ⟨(j8 _ (by omega)).trans w1, (j8 _ (by omega)).trans w2, (j8 _ (by omega)).trans w3, (j8 _ (by omega)).trans w4⟩
      | succ d ih =>
        intro k hd g7 g8 hk cc k7 k8 k9 k10 j7 j8 T L S
        have e1 : ¬ (192 : Int32) ≤ nI k := nI_ge (b := 192) (by omega) (by decide)
        rw [u_99_119]
        simp only [u_99_120, u_99_123, u_99_126, u_99_126n, u_99_127, u_99_130, u_99_131, u_99_131n, u_99_132, u_99_135, u_99_136, u_99_137, pm_O_some, pm_w_nil, pm_w_i, pm_w_l, pm_w_r, pm_w_n, pm_c_n, pm_c_i, pm_c_l, pm_c_r, pm_c_u, Nat.reduceAdd, Nat.reduceLeDiff, true_and, Option.toList_some, Option.toList_none, List.cons_append, List.nil_append, if_neg e1, cc.g12, cc.g15, k8, k10, ld_i (t := 0) (ix_192 (show k < 192 by omega)) rfl, st_i (t := 0) (ix_192 (show k < 192 by omega)) rfl, nI_clamp (show k < 2 ^ 31 by omega), ty_0]
        have F := Frm.set (e := .inl (0, 192, .inl (upd g8 k (fr' k)))) k8 rfl
        simp only [u_99_138, u_99_141, pm_O_some, pm_w_nil, pm_w_i, pm_w_l, pm_w_r, pm_w_n, pm_c_n, pm_c_i, pm_c_l, pm_c_r, pm_c_u, Nat.reduceAdd, Nat.reduceLeDiff, true_and, Option.toList_some, Option.toList_none, List.cons_append, List.nil_append, nI_1]
        refine ih (k + 1) _ g7 _ (by omega) (cc.frm F (by omega)) ((F.2.2 _ (by omega)).trans k7) (pm_at_self (pm_v_at k8)) ((F.2.2 _ (by omega)).trans k9) ((F.2.2 _ (by omega)).trans k10) j7 (fun j hj => ?_) (fun q h1 h2 => (F.2.2 q (by omega)).trans (T q h1 h2)) (F.1.trans L) (F.2.1.trans S)
        by_cases cj : j = k
        · rw [cj, upd_s]
        · rw [upd_n cj]
          exact j8 j (by omega)
    have loop1 : ∀ d k hd g7 g8, k + d = 8 → MC B hd m (nI n) 0 (nI q) (-1) (nI (r + 1)) (nI (r + 1)) (nI nd) (nI nl) jh jm x31 x32 → pm_at B hd (m + 7) = some (.inl (0, 8, .inl g7)) → pm_at B hd (m + 8) = some (.inl (0, 192, .inl g8)) → pm_at B hd (m + 9) = some (.inl (0, 8, .inl fd')) → pm_at B hd (m + 10) = some (.inl (0, 192, .inl fr')) → (∀ j, j < k → g7 j = fd' j) → (∀ q, ¬ q = m → ¬ (m + 7 ≤ q ∧ q < m + 11) → pm_at B hd q = pm_at B h q) → hd.length = h.length → pm_sl hd = pm_sl h → PW B X 99 93 [some (.ref m), some (.int 0), some (.int (nI k))] [] hd Q := by
      intro d
      induction d with
      | zero =>
        intro k hd g7 g8 hk cc k7 k8 k9 k10 j7 T L S
        obtain rfl : k = 8 := by omega
        have e1 : (8 : Int32) ≤ nI 8 := by decide
        simp only [u_99_93, u_99_94, u_99_96, u_99_117, u_99_118, pm_O_some, pm_w_nil, pm_w_i, pm_w_l, pm_w_r, pm_w_n, pm_c_n, pm_c_i, pm_c_l, pm_c_r, pm_c_u, Nat.reduceAdd, Nat.reduceLeDiff, true_and, Option.toList_some, Option.toList_none, List.cons_append, List.nil_append, if_pos e1]
        exact loop2 192 0 hd g7 g8 (by omega) cc k7 k8 k9 k10 j7 (fun j hj => by omega) T L S
      | succ d ih =>
        intro k hd g7 g8 hk cc k7 k8 k9 k10 j7 T L S
        have e1 : ¬ (8 : Int32) ≤ nI k := nI_ge (b := 8) (by omega) (by decide)
        rw [u_99_93]
        simp only [u_99_94, u_99_96, u_99_99, u_99_99n, u_99_100, u_99_103, u_99_104, u_99_104n, u_99_105, u_99_108, u_99_109, u_99_110, pm_O_some, pm_w_nil, pm_w_i, pm_w_l, pm_w_r, pm_w_n, pm_c_n, pm_c_i, pm_c_l, pm_c_r, pm_c_u, Nat.reduceAdd, Nat.reduceLeDiff, true_and, Option.toList_some, Option.toList_none, List.cons_append, List.nil_append, if_neg e1, cc.g11, cc.g14, k7, k9, ld_i (t := 0) (ix_8 (show k < 8 by omega)) rfl, st_i (t := 0) (ix_8 (show k < 8 by omega)) rfl, nI_clamp (show k < 2 ^ 31 by omega), ty_0]
        have F := Frm.set (e := .inl (0, 8, .inl (upd g7 k (fd' k)))) k7 rfl
        simp only [u_99_111, u_99_114, pm_O_some, pm_w_nil, pm_w_i, pm_w_l, pm_w_r, pm_w_n, pm_c_n, pm_c_i, pm_c_l, pm_c_r, pm_c_u, Nat.reduceAdd, Nat.reduceLeDiff, true_and, Option.toList_some, Option.toList_none, List.cons_append, List.nil_append, nI_1]
        refine ih (k + 1) _ _ g8 (by omega) (cc.frm F (by omega)) (pm_at_self (pm_v_at k7)) ((F.2.2 _ (by omega)).trans k8) ((F.2.2 _ (by omega)).trans k9) ((F.2.2 _ (by omega)).trans k10) (fun j hj => ?_) (fun q h1 h2 => (F.2.2 q (by omega)).trans (T q h1 h2)) (F.1.trans L) (F.2.1.trans S)
        by_cases cj : j = k
        · rw [cj, upd_s]
        · rw [upd_n cj]
          exact j7 j (by omega)
    exact loop1 8 0 _ f7 f8 (by omega) c5 e7 e8 e9 e10 (fun j hj => by omega) T5 L5 S5
  have loop : ∀ f r p hc fd fr sz tm, f + r = 8 → PS B hc m ln tx (nI n) (nI nr) (nI nd) (nI nl) jh jm x31 x32 p (-1) r fd fr → DR fd fr r sz tm → prs tx ln (f + 1) r p sz tm = RES → Frz B h hc m → PW B X 99 17 [some (.ref m), some (.int 1), none] [] hc Q := by
    intro f
    induction f with
    | zero =>
      intro r p hc fd fr sz tm hf mm dr hR F
      rw [u_99_17]
      simp only [u_99_18, u_99_21, u_99_21n, u_99_22, pm_O_some, pm_w_nil, pm_w_i, pm_w_l, pm_w_r, pm_w_n, pm_c_n, pm_c_i, pm_c_l, pm_c_r, pm_c_u, Nat.reduceAdd, Nat.reduceLeDiff, true_and, Option.toList_some, Option.toList_none, List.cons_append, List.nil_append, i10, if_false, mm.io]
      rw [prs, if_pos (by omega)] at hR
      refine p_rule mm (by omega) dr (fun w r' h2 hw pf F2 => ?_) (fun hr => by omega)
      refine endB w r' h2 ?_ pf (F.trans F2)
      rcases hw with z | z
      · rw [z.2]; exact hR.symm
      · omega
    | succ f ih =>
      intro r p hc fd fr sz tm hf mm dr hR F
      rw [u_99_17]
      simp only [u_99_18, u_99_21, u_99_21n, u_99_22, pm_O_some, pm_w_nil, pm_w_i, pm_w_l, pm_w_r, pm_w_n, pm_c_n, pm_c_i, pm_c_l, pm_c_r, pm_c_u, Nat.reduceAdd, Nat.reduceLeDiff, true_and, Option.toList_some, Option.toList_none, List.cons_append, List.nil_append, i10, if_false, mm.io]
      rw [prs, if_neg (by omega)] at hR
      refine p_rule mm (by omega) dr (fun w r' h2 hw pf F2 => ?_) (fun hr q sz' tm' h2 fd' fr' hq m2 d2 F2 => ?_)
      · refine endB w r' h2 ?_ pf (F.trans F2)
        rcases hw with z | z
        · omega
        · rw [z.2] at hR
          exact hR.symm
      · rw [hq] at hR
        simp only at hR
        have q2 := m2.2.2.2.2.2.2.1
        have b9 := m2.2.2.2.2.2.2.2.2
        by_cases c59 : lk tx ln q = 59
        · rw [if_pos c59] at hR
          have e59 : ¬ ¬ nI (lk tx ln q) = 59 := fun z => z (by rw [c59]; rfl)
          have hql : q < ln := by
            rcases Nat.lt_or_ge q ln with z | z
            · exact z
            · have : lk tx ln q = 0 := if_neg (by omega)
              omega
          simp only [u_99_25, u_99_25n, u_99_26, u_99_29, u_99_32, u_99_32n, u_99_33, u_99_36, u_99_38, u_99_41, u_99_42, u_99_45, u_99_46, u_99_47, u_99_48, u_99_51, u_99_51n, u_99_52, u_99_52i, u_99_53, u_99_56, u_99_57, u_99_58, pm_O_some, pm_w_nil, pm_w_i, pm_w_l, pm_w_r, pm_w_n, pm_c_n, pm_c_i, pm_c_l, pm_c_r, pm_c_u, Nat.reduceAdd, Nat.reduceLeDiff, true_and, Option.toList_some, Option.toList_none, List.cons_append, List.nil_append, m2.1.g9, if_neg nn, m2.io, p_look m2, if_neg e59, i10, if_false, m2.1.g8, nI_1, m2.1.p8]
          obtain ⟨c4, F4⟩ := m2.1.s8 (v := nI (q + 1))
          simp only [u_99_61, pm_O_some, pm_w_nil, pm_w_i, pm_w_l, pm_w_r, pm_w_n, pm_c_n, pm_c_i, pm_c_l, pm_c_r, pm_c_u, Nat.reduceAdd, Nat.reduceLeDiff, true_and, Option.toList_some, Option.toList_none, List.cons_append, List.nil_append]
          exact ih (r + 1) (q + 1) _ _ _ _ _ (by omega) (m2.obj F4 c4 (by omega)) d2 hR ((F.trans F2).trans F4.zo)
        · rw [if_neg c59] at hR
          have e59 : ¬ nI (lk tx ln q) = 59 := fun z => c59 ((nI_eq (b := 59) (lkk b9) (by decide)).mp z)
          simp only [u_99_25, u_99_25n, u_99_26, u_99_29, u_99_32, u_99_32n, u_99_33, u_99_36, u_99_38, u_99_41, u_99_42, u_99_45, u_99_46, u_99_47, u_99_48, pm_O_some, pm_w_nil, pm_w_i, pm_w_l, pm_w_r, pm_w_n, pm_c_n, pm_c_i, pm_c_l, pm_c_r, pm_c_u, Nat.reduceAdd, Nat.reduceLeDiff, true_and, Option.toList_some, Option.toList_none, List.cons_append, List.nil_append, m2.1.g9, if_neg nn, m2.io, p_look m2, if_pos e59, i00, if_true]
          simp only [u_99_17, u_99_18, pm_O_some, pm_w_nil, pm_w_i, pm_w_l, pm_w_r, pm_w_n, pm_c_n, pm_c_i, pm_c_l, pm_c_r, pm_c_u, Nat.reduceAdd, Nat.reduceLeDiff, true_and, Option.toList_some, Option.toList_none, List.cons_append, List.nil_append, i00, if_true]
          exact endG r q sz' tm' fd' fr' h2 hr hR.symm m2 d2 (F.trans F2)
  exact loop 8 0 0 _ fd fr _ _ (by omega) ps0 (fun k hk => by omega) hRES G3.zo
end PRS

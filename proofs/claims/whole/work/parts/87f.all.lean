/-! THE REFERENCE: sumAll, sum, caseOf. -/
def Frs (B : Nat) (h h' : pm_H) (m : Nat) : Prop := h'.length = h.length ∧ pm_sl h' = pm_sl h ∧ ∀ q, ¬ q = m → ¬ (m + 18 ≤ q ∧ q < m + 22) → pm_at B h' q = pm_at B h q
theorem nI_nm {j : Nat} (h : j < 2 ^ 31) : ¬ nI j = -1 := fun c => by
  have := congrArg Int32.toInt c
  rw [nI_toInt h] at this
  change _ = (-1 : Int) at this
  omega
theorem gmn_i {v : Nat → Rat} : ∀ {k : Nat}, 1 ≤ k → k ≤ 8 → ¬ (gmn v k).2 = -1
  | 0, h, _ => by omega
  | k + 1, _, h => by
    rw [gmn]
    by_cases c : (gmn v k).2 = -1 ∨ v k < (gmn v k).1
    · rw [if_pos c]
      exact nI_nm (by omega)
    · rw [if_neg c]
      exact fun z => c (Or.inl z)
theorem gmx_i {v : Nat → Rat} : ∀ {k : Nat}, 1 ≤ k → k ≤ 8 → ¬ (gmx v k).2 = -1
  | 0, h, _ => by omega
  | k + 1, _, h => by
    rw [gmx]
    by_cases c : (gmx v k).2 = -1 ∨ (gmx v k).1 < v k
    · rw [if_pos c]
      exact nI_nm (by omega)
    · rw [if_neg c]
      exact fun z => c (Or.inl z)
theorem gmn_s {v : Nat → Rat} {P : Rat → Prop} (h0 : P 0) : ∀ {k : Nat}, (∀ j, j < k → P (v j)) → P (gmn v k).1
  | 0, _ => h0
  | k + 1, h => by
    rw [gmn]
    split
    · exact h k (by omega)
    · exact gmn_s h0 (fun j hj => h j (by omega))
theorem gmx_s {v : Nat → Rat} {P : Rat → Prop} (h0 : P 0) : ∀ {k : Nat}, (∀ j, j < k → P (v j)) → P (gmx v k).1
  | 0, _ => h0
  | k + 1, h => by
    rw [gmx]
    split
    · exact h k (by omega)
    · exact gmx_s h0 (fun j hj => h j (by omega))
theorem sm7_0 : sm7 0 := ⟨by decide +kernel, by decide +kernel⟩
section ALL
variable {B : Nat} {X : pm_X} {h h' h2 : pm_H} {Q : Option Value → pm_H → Prop} {m lo hi n ln nr nd nl i k a r : Nat} {bs : Nat → Bg} {tx sz lm ll : Nat → Nat} {tm : Nat → Nat → Tm} {dy : Nat → Int} {jk : Option (Nat × Nat)} {R : Nat → Rg} {fl : Nat → Int64} {fu fs fw : Nat → Int32} {b ax wh pt : Int32}
theorem Frs.rfl' : Frs B h h m := ⟨rfl, rfl, fun _ _ _ => rfl⟩
theorem Frs.trans (f1 : Frs B h h' m) (f2 : Frs B h' h2 m) : Frs B h h2 m := ⟨f2.1.trans f1.1, f2.2.1.trans f1.2.1, fun q a b => (f2.2.2 q a b).trans (f1.2.2 q a b)⟩
theorem Frm.rs (f1 : Frm B h h' (m + 18) (m + 22)) : Frs B h h' m := ⟨f1.1, f1.2.1, fun q a b => f1.2.2 q (by omega)⟩
theorem Frm.os (f1 : Frm B h h' m (m + 1)) : Frs B h h' m := ⟨f1.1, f1.2.1, fun q a b => f1.2.2 q (by omega)⟩
theorem Frs.fm (f1 : Frs B h h' m) : Frm B h h' m (m + 24) := ⟨f1.1, f1.2.1, fun q hq => f1.2.2 q (by omega) (by omega)⟩
theorem MI.frs {x8 x9 x13 jh jm x31 x32 : Int32} (n1 : MI B h m n bs ln tx nr sz tm nd dy nl lm ll jk) (S : Frs B h h' m) (c : MC B h' m (nI n) (nI ln) x8 x9 (nI nr) x13 (nI nd) (nI nl) jh jm x31 x32) (cj : JM jk jh jm) (ns : NS B h' m R) : MI B h' m n bs ln tx nr sz tm nd dy nl lm ll jk := by
  have T := S.2.2
  obtain ⟨_, ⟨f1, f2, a1, a2, a3⟩, ⟨f3, a4, a5⟩, ⟨f4, f5, a6, a7, a8⟩, ⟨f6, a9, a10⟩, ⟨f7, f8, a11, a12, a13⟩, ⟨f9, f10, f11, a14, a15, a16, a17⟩, ⟨f12, a18, a19⟩, ⟨f13, f14, a20, a21, a22⟩, ⟨f15, f16, a23, a24⟩, ⟨f17, a25⟩, ⟨f18, a26⟩, _⟩ := n1
  exact ⟨⟨_, _, _, _, _, _, _, c, cj⟩, ⟨f1, f2, (T _ (by omega) (by omega)).trans a1, (T _ (by omega) (by omega)).trans a2, a3⟩, ⟨f3, (T _ (by omega) (by omega)).trans a4, a5⟩, ⟨f4, f5, (T _ (by omega) (by omega)).trans a6, (T _ (by omega) (by omega)).trans a7, a8⟩, ⟨f6, (T _ (by omega) (by omega)).trans a9, a10⟩, ⟨f7, f8, (T _ (by omega) (by omega)).trans a11, (T _ (by omega) (by omega)).trans a12, a13⟩, ⟨f9, f10, f11, (T _ (by omega) (by omega)).trans a14, (T _ (by omega) (by omega)).trans a15, (T _ (by omega) (by omega)).trans a16, a17⟩, ⟨f12, (T _ (by omega) (by omega)).trans a18, a19⟩, ⟨f13, f14, (T _ (by omega) (by omega)).trans a20, (T _ (by omega) (by omega)).trans a21, a22⟩, ⟨f15, f16, (T _ (by omega) (by omega)).trans a23, (T _ (by omega) (by omega)).trans a24⟩, ⟨f17, (T _ (by omega) (by omega)).trans a25⟩, ⟨f18, (T _ (by omega) (by omega)).trans a26⟩, R, ns⟩
theorem LM_s (so : SO n bs ln tx nr sz tm nd dy nl lm ll jk) (hi : i < n) (ha : a < 3) (hk : k ≤ nr) : sm7 (gmn (rv (bs i) sz tm a (-1)) k).1 ∧ sm7 (gmx (rv (bs i) sz tm a 1) k).1 :=
  ⟨gmn_s sm7_0 (fun j hj => rv_s so (show j < nr by omega) hi ha (Or.inr rfl) (Nat.le_refl _)), gmx_s sm7_0 (fun j hj => rv_s so (show j < nr by omega) hi ha (Or.inl rfl) (Nat.le_refl _))⟩
theorem c_sumAll (so : SO n bs ln tx nr sz tm nd dy nl lm ll jk) (n1 : MI B h m n bs ln tx nr sz tm nd dy nl lm ll jk) (ns : NS B h m R) (hi : i < n) (ha : a < 3)
    (hQ : ∀ h' R' x0 x7 x8 x9 x10 x13 x19 x21 x24 x25, MI B h' m n bs ln tx nr sz tm nd dy nl lm ll jk → NS B h' m R' → rgq (R' 0) (LM (bs i) nr sz tm a).1 → rgq (R' 1) (GM (bs i) nr sz tm a).1 → (∀ j, 6 ≤ j → R' j = R j) → MC B h' m x0 x7 x8 x9 x10 x13 x19 x21 x24 x25 (LM (bs i) nr sz tm a).2 (GM (bs i) nr sz tm a).2 → Frs B h h' m → Q none h') :
    PW B X 108 0 [some (.ref m), some (.int (nI i)), some (.int (nI a)), none] [] h Q := by
  have hnr := so.2.2.1.1
  obtain ⟨⟨x8, x9, x13, jh, jm, x31, x32, c, cj⟩, _⟩ := id n1
  have loop : ∀ d k hc R', k + d = nr → NS B hc m R' → MC B hc m (nI n) (nI ln) x8 x9 (nI nr) x13 (nI nd) (nI nl) jh jm (gmn (rv (bs i) sz tm a (-1)) k).2 (gmx (rv (bs i) sz tm a 1) k).2 → rgq (R' 0) (gmn (rv (bs i) sz tm a (-1)) k).1 → rgq (R' 1) (gmx (rv (bs i) sz tm a 1) k).1 → (∀ j, 6 ≤ j → R' j = R j) → Frs B h hc m → PW B X 108 22 [some (.ref m), some (.int (nI i)), some (.int (nI a)), some (.int (nI k))] [] hc Q := by
    intro d
    induction d with
    | zero =>
      intro k hc R' hk m1 c1 i1 i2 i3 F
      obtain rfl : k = nr := by omega
      have e1 : nI k ≤ nI k := nI_le (Nat.le_refl _) (by omega)
      simp only [u_108_22, u_108_23, u_108_23n, u_108_24, u_108_27, u_108_100, pm_O_some, pm_w_nil, pm_w_i, pm_w_l, pm_w_r, pm_w_n, pm_c_n, pm_c_i, pm_c_l, pm_c_r, pm_c_u, Nat.reduceAdd, Nat.reduceLeDiff, true_and, Option.toList_some, Option.toList_none, List.cons_append, List.nil_append, c1.g10, if_pos e1]
      exact hQ hc R' _ _ _ _ _ _ _ _ _ _ (n1.frs F c1 cj m1) m1 i1 i2 i3 c1 F
    | succ d ih =>
      intro k hc R' hk m1 c1 i1 i2 i3 F
      have hk1 : k < nr := by omega
      have e1 : ¬ nI nr ≤ nI k := nI_ge hk1 (by omega)
      obtain ⟨s1, s2⟩ := LM_s so hi ha (k := k) (by omega)
      have mi1 := n1.frs F c1 cj m1
      rw [u_108_22]
      simp only [u_108_23, u_108_23n, u_108_24, u_108_27, u_108_30, u_108_30n, u_108_31, u_108_32, u_108_33, u_108_34, u_108_35, pm_O_some, pm_w_nil, pm_w_i, pm_w_l, pm_w_r, pm_w_n, pm_c_n, pm_c_i, pm_c_l, pm_c_r, pm_c_u, Nat.reduceAdd, Nat.reduceLeDiff, true_and, Option.toList_some, Option.toList_none, List.cons_append, List.nil_append, c1.g10, if_neg e1, c1.io]
      refine c_sumRule (sd := -1) so mi1 m1 hk1 hi ha (Or.inl ⟨rfl, rfl⟩) (fun h1 R1 m2 q1 q2 F1 => ?_)
      have sv1 : sm7 (rv (bs i) sz tm a (-1) k) := rv_s so hk1 hi ha (Or.inr rfl) (Nat.le_refl _)
      have sv2 : sm7 (rv (bs i) sz tm a 1 k) := rv_s so hk1 hi ha (Or.inl rfl) (Nat.le_refl _)
      have c2 := c1.frm F1 (by omega)
      -- the second half
      have half : ∀ hc R' , NS B hc m R' → MC B hc m (nI n) (nI ln) x8 x9 (nI nr) x13 (nI nd) (nI nl) jh jm (gmn (rv (bs i) sz tm a (-1)) (k + 1)).2 (gmx (rv (bs i) sz tm a 1) k).2 → rgq (R' 0) (gmn (rv (bs i) sz tm a (-1)) (k + 1)).1 → rgq (R' 1) (gmx (rv (bs i) sz tm a 1) k).1 → (∀ j, 6 ≤ j → R' j = R j) → Frs B h hc m → PW B X 108 62 [some (.ref m), some (.int (nI i)), some (.int (nI a)), some (.int (nI k))] [] hc Q := by
        intro hc R' m1 c1 i1 i2 i3 F
        simp only [u_108_62, u_108_62n, u_108_63, u_108_64, u_108_65, u_108_66, u_108_67, pm_O_some, pm_w_nil, pm_w_i, pm_w_l, pm_w_r, pm_w_n, pm_c_n, pm_c_i, pm_c_l, pm_c_r, pm_c_u, Nat.reduceAdd, Nat.reduceLeDiff, true_and, Option.toList_some, Option.toList_none, List.cons_append, List.nil_append, c1.io]
        refine c_sumRule (sd := 1) so (n1.frs F c1 cj m1) m1 hk1 hi ha (Or.inr ⟨rfl, rfl⟩) (fun h1 R1 m2 q1 q2 F1 => ?_)
        have c2 := c1.frm F1 (by omega)
        have takes : ∀ hc R', NS B hc m R' → MC B hc m (nI n) (nI ln) x8 x9 (nI nr) x13 (nI nd) (nI nl) jh jm (gmn (rv (bs i) sz tm a (-1)) (k + 1)).2 (gmx (rv (bs i) sz tm a 1) k).2 → ((gmx (rv (bs i) sz tm a 1) k).2 = -1 ∨ (gmx (rv (bs i) sz tm a 1) k).1 < rv (bs i) sz tm a 1 k) → rgq (R' 2) (rv (bs i) sz tm a 1 k) → rgq (R' 0) (gmn (rv (bs i) sz tm a (-1)) (k + 1)).1 → (∀ j, 6 ≤ j → R' j = R j) → Frs B h hc m → PW B X 108 83 [some (.ref m), some (.int (nI i)), some (.int (nI a)), some (.int (nI k))] [] hc Q := by
          intro hc R' m1 c1 hor j1 j2 j3 F
          simp only [u_108_83, u_108_83n, u_108_84, u_108_85, u_108_86, pm_O_some, pm_w_nil, pm_w_i, pm_w_l, pm_w_r, pm_w_n, pm_c_n, pm_c_i, pm_c_l, pm_c_r, pm_c_u, Nat.reduceAdd, Nat.reduceLeDiff, true_and, Option.toList_some, Option.toList_none, List.cons_append, List.nil_append, c1.io]
          refine c_copy (p := 2) (q := 1) m1 (by omega) (by omega) (by omega) (fun h2 m3 F2 => ?_)
          have c3 := c1.frm F2 (by omega)
          simp only [u_108_89, u_108_89n, u_108_90, u_108_91, pm_O_some, pm_w_nil, pm_w_i, pm_w_l, pm_w_r, pm_w_n, pm_c_n, pm_c_i, pm_c_l, pm_c_r, pm_c_u, Nat.reduceAdd, Nat.reduceLeDiff, true_and, Option.toList_some, Option.toList_none, List.cons_append, List.nil_append, c3.p32]
          obtain ⟨c4, F3⟩ := c3.s32 (v := nI k)
          simp only [u_108_94, u_108_97, pm_O_some, pm_w_nil, pm_w_i, pm_w_l, pm_w_r, pm_w_n, pm_c_n, pm_c_i, pm_c_l, pm_c_r, pm_c_u, Nat.reduceAdd, Nat.reduceLeDiff, true_and, Option.toList_some, Option.toList_none, List.cons_append, List.nil_append, nI_1]
          have eg : gmx (rv (bs i) sz tm a 1) (k + 1) = (rv (bs i) sz tm a 1 k, nI k) := if_pos hor
          refine ih (k + 1) _ _ (by omega) (m3.obj F3.fx c4) (by rw [eg]; exact c4) ?_ ?_ (fun j hj => ?_) ((F.trans F2.rs).trans F3.os)
          · rw [ups_n (by omega)]; exact j2
          · rw [ups_s, eg]; exact j1
          · rw [ups_n (by omega)]; exact j3 j hj
        by_cases k0 : k = 0
        · have e2 : nI k = 0 := by rw [k0]; rfl
          simp only [u_108_70, u_108_71, pm_O_some, pm_w_nil, pm_w_i, pm_w_l, pm_w_r, pm_w_n, pm_c_n, pm_c_i, pm_c_l, pm_c_r, pm_c_u, Nat.reduceAdd, Nat.reduceLeDiff, true_and, Option.toList_some, Option.toList_none, List.cons_append, List.nil_append, if_pos e2]
          refine takes h1 R1 m2 c2 (Or.inl (by rw [k0]; rfl)) q1 ?_ (fun j hj => ?_) (F.trans F1.rs)
          · rw [q2 0 (by omega)]; exact i1
          · rw [q2 j (by omega)]; exact i3 j hj
        · have e2 : ¬ nI k = 0 := mt (nI_e0 (by omega)).mp k0
          simp only [u_108_70, u_108_71, u_108_74, u_108_74n, u_108_75, u_108_76, u_108_77, pm_O_some, pm_w_nil, pm_w_i, pm_w_l, pm_w_r, pm_w_n, pm_c_n, pm_c_i, pm_c_l, pm_c_r, pm_c_u, Nat.reduceAdd, Nat.reduceLeDiff, true_and, Option.toList_some, Option.toList_none, List.cons_append, List.nil_append, if_neg e2, c2.io]
          refine c_compare (a := 2) (b := 1) m2 q1 (by rw [q2 1 (by omega)]; exact i2) (by omega) (by omega) sv2.s9 s2.s9 (fun h2 R2 m3 p1 F2 => ?_)
          have c3 := c2.frm F2 (by omega)
          by_cases hlt : (gmx (rv (bs i) sz tm a 1) k).1 < rv (bs i) sz tm a 1 k
          · have e5 : ¬ cq (rv (bs i) sz tm a 1 k) (gmx (rv (bs i) sz tm a 1) k).1 ≤ 0 := fun c => cq_pos.mp c hlt
            simp only [u_108_80, pm_O_some, pm_w_nil, pm_w_i, pm_w_l, pm_w_r, pm_w_n, pm_c_n, pm_c_i, pm_c_l, pm_c_r, pm_c_u, Nat.reduceAdd, Nat.reduceLeDiff, true_and, Option.toList_some, Option.toList_none, List.cons_append, List.nil_append, if_neg e5]
            refine takes h2 R2 m3 c3 (Or.inr hlt) ?_ ?_ (fun j hj => ?_) ((F.trans F1.rs).trans F2.rs)
            · rw [p1 2 (by omega) (by omega)]; exact q1
            · rw [p1 0 (by omega) (by omega), q2 0 (by omega)]; exact i1
            · rw [p1 j (by omega) (by omega), q2 j (by omega)]; exact i3 j hj
          · have e5 : cq (rv (bs i) sz tm a 1 k) (gmx (rv (bs i) sz tm a 1) k).1 ≤ 0 := cq_pos.mpr hlt
            simp only [u_108_80, u_108_94, u_108_97, pm_O_some, pm_w_nil, pm_w_i, pm_w_l, pm_w_r, pm_w_n, pm_c_n, pm_c_i, pm_c_l, pm_c_r, pm_c_u, Nat.reduceAdd, Nat.reduceLeDiff, true_and, Option.toList_some, Option.toList_none, List.cons_append, List.nil_append, if_pos e5, nI_1]
            have eg : gmx (rv (bs i) sz tm a 1) (k + 1) = gmx (rv (bs i) sz tm a 1) k := if_neg (fun z => z.elim (gmx_i (by omega) (by omega)) hlt)
            refine ih (k + 1) h2 R2 (by omega) m3 (by rw [eg]; exact c3) ?_ ?_ (fun j hj => ?_) ((F.trans F1.rs).trans F2.rs)
            · rw [p1 0 (by omega) (by omega), q2 0 (by omega)]; exact i1
            · rw [eg, p1 1 (by omega) (by omega), q2 1 (by omega)]; exact i2
            · rw [p1 j (by omega) (by omega), q2 j (by omega)]; exact i3 j hj
      have takes : ∀ hc R', NS B hc m R' → MC B hc m (nI n) (nI ln) x8 x9 (nI nr) x13 (nI nd) (nI nl) jh jm (gmn (rv (bs i) sz tm a (-1)) k).2 (gmx (rv (bs i) sz tm a 1) k).2 → ((gmn (rv (bs i) sz tm a (-1)) k).2 = -1 ∨ rv (bs i) sz tm a (-1) k < (gmn (rv (bs i) sz tm a (-1)) k).1) → rgq (R' 2) (rv (bs i) sz tm a (-1) k) → rgq (R' 1) (gmx (rv (bs i) sz tm a 1) k).1 → (∀ j, 6 ≤ j → R' j = R j) → Frs B h hc m → PW B X 108 51 [some (.ref m), some (.int (nI i)), some (.int (nI a)), some (.int (nI k))] [] hc Q := by
        intro hc R' m1 c1 hor j1 j2 j3 F
        simp only [u_108_51, u_108_51n, u_108_52, u_108_53, u_108_54, pm_O_some, pm_w_nil, pm_w_i, pm_w_l, pm_w_r, pm_w_n, pm_c_n, pm_c_i, pm_c_l, pm_c_r, pm_c_u, Nat.reduceAdd, Nat.reduceLeDiff, true_and, Option.toList_some, Option.toList_none, List.cons_append, List.nil_append, c1.io]
        refine c_copy (p := 2) (q := 0) m1 (by omega) (by omega) (by omega) (fun h2 m3 F2 => ?_)
        have c3 := c1.frm F2 (by omega)
        simp only [u_108_57, u_108_57n, u_108_58, u_108_59, pm_O_some, pm_w_nil, pm_w_i, pm_w_l, pm_w_r, pm_w_n, pm_c_n, pm_c_i, pm_c_l, pm_c_r, pm_c_u, Nat.reduceAdd, Nat.reduceLeDiff, true_and, Option.toList_some, Option.toList_none, List.cons_append, List.nil_append, c3.p31]
        obtain ⟨c4, F3⟩ := c3.s31 (v := nI k)
        have eg : gmn (rv (bs i) sz tm a (-1)) (k + 1) = (rv (bs i) sz tm a (-1) k, nI k) := if_pos hor
        refine half _ _ (m3.obj F3.fx c4) (by rw [eg]; exact c4) ?_ ?_ (fun j hj => ?_) ((F.trans F2.rs).trans F3.os)
        · rw [ups_s, eg]; exact j1
        · rw [ups_n (by omega)]; exact j2
        · rw [ups_n (by omega)]; exact j3 j hj
      by_cases k0 : k = 0
      · have e2 : nI k = 0 := by rw [k0]; rfl
        simp only [u_108_38, u_108_39, pm_O_some, pm_w_nil, pm_w_i, pm_w_l, pm_w_r, pm_w_n, pm_c_n, pm_c_i, pm_c_l, pm_c_r, pm_c_u, Nat.reduceAdd, Nat.reduceLeDiff, true_and, Option.toList_some, Option.toList_none, List.cons_append, List.nil_append, if_pos e2]
        refine takes h1 R1 m2 c2 (Or.inl (by rw [k0]; rfl)) q1 ?_ (fun j hj => ?_) (F.trans F1.rs)
        · rw [q2 1 (by omega)]; exact i2
        · rw [q2 j (by omega)]; exact i3 j hj
      · have e2 : ¬ nI k = 0 := mt (nI_e0 (by omega)).mp k0
        simp only [u_108_38, u_108_39, u_108_42, u_108_42n, u_108_43, u_108_44, u_108_45, pm_O_some, pm_w_nil, pm_w_i, pm_w_l, pm_w_r, pm_w_n, pm_c_n, pm_c_i, pm_c_l, pm_c_r, pm_c_u, Nat.reduceAdd, Nat.reduceLeDiff, true_and, Option.toList_some, Option.toList_none, List.cons_append, List.nil_append, if_neg e2, c2.io]
        refine c_compare (a := 2) (b := 0) m2 q1 (by rw [q2 0 (by omega)]; exact i1) (by omega) (by omega) sv1.s9 s1.s9 (fun h2 R2 m3 p1 F2 => ?_)
        have c3 := c2.frm F2 (by omega)
        by_cases hlt : rv (bs i) sz tm a (-1) k < (gmn (rv (bs i) sz tm a (-1)) k).1
        · have e5 : ¬ 0 ≤ cq (rv (bs i) sz tm a (-1) k) (gmn (rv (bs i) sz tm a (-1)) k).1 := fun c => cq_neg.mp c hlt
          simp only [u_108_48, pm_O_some, pm_w_nil, pm_w_i, pm_w_l, pm_w_r, pm_w_n, pm_c_n, pm_c_i, pm_c_l, pm_c_r, pm_c_u, Nat.reduceAdd, Nat.reduceLeDiff, true_and, Option.toList_some, Option.toList_none, List.cons_append, List.nil_append, if_neg e5]
          refine takes h2 R2 m3 c3 (Or.inr hlt) ?_ ?_ (fun j hj => ?_) ((F.trans F1.rs).trans F2.rs)
          · rw [p1 2 (by omega) (by omega)]; exact q1
          · rw [p1 1 (by omega) (by omega), q2 1 (by omega)]; exact i2
          · rw [p1 j (by omega) (by omega), q2 j (by omega)]; exact i3 j hj
        · have e5 : 0 ≤ cq (rv (bs i) sz tm a (-1) k) (gmn (rv (bs i) sz tm a (-1)) k).1 := cq_neg.mpr hlt
          simp only [u_108_48, pm_O_some, pm_w_nil, pm_w_i, pm_w_l, pm_w_r, pm_w_n, pm_c_n, pm_c_i, pm_c_l, pm_c_r, pm_c_u, Nat.reduceAdd, Nat.reduceLeDiff, true_and, Option.toList_some, Option.toList_none, List.cons_append, List.nil_append, if_pos e5]
          have eg : gmn (rv (bs i) sz tm a (-1)) (k + 1) = gmn (rv (bs i) sz tm a (-1)) k := if_neg (fun z => z.elim (gmn_i (by omega) (by omega)) hlt)
          refine half h2 R2 m3 (by rw [eg]; exact c3) ?_ ?_ (fun j hj => ?_) ((F.trans F1.rs).trans F2.rs)
          · rw [eg, p1 0 (by omega) (by omega), q2 0 (by omega)]; exact i1
          · rw [p1 1 (by omega) (by omega), q2 1 (by omega)]; exact i2
          · rw [p1 j (by omega) (by omega), q2 j (by omega)]; exact i3 j hj
  simp only [u_108_0, u_108_0n, u_108_1, u_108_2, pm_O_some, pm_w_nil, pm_w_i, pm_w_l, pm_w_r, pm_w_n, pm_c_n, pm_c_i, pm_c_l, pm_c_r, pm_c_u, Nat.reduceAdd, Nat.reduceLeDiff, true_and, Option.toList_some, Option.toList_none, List.cons_append, List.nil_append, c.io]
  refine c_zero (r := 0) ns (by omega) (fun h1 m1 F1 => ?_)
  have c1 := c.frm F1 (by omega)
  simp only [u_108_5, u_108_5n, u_108_6, u_108_7, pm_O_some, pm_w_nil, pm_w_i, pm_w_l, pm_w_r, pm_w_n, pm_c_n, pm_c_i, pm_c_l, pm_c_r, pm_c_u, Nat.reduceAdd, Nat.reduceLeDiff, true_and, Option.toList_some, Option.toList_none, List.cons_append, List.nil_append, c1.io]
  refine c_zero (r := 1) m1 (by omega) (fun h2 m2 F2 => ?_)
  have c2 := c1.frm F2 (by omega)
  simp only [u_108_10, u_108_10n, u_108_11, u_108_12, pm_O_some, pm_w_nil, pm_w_i, pm_w_l, pm_w_r, pm_w_n, pm_c_n, pm_c_i, pm_c_l, pm_c_r, pm_c_u, Nat.reduceAdd, Nat.reduceLeDiff, true_and, Option.toList_some, Option.toList_none, List.cons_append, List.nil_append, c2.p31]
  obtain ⟨c3, F3⟩ := c2.s31 (v := -1)
  simp only [u_108_15, u_108_15n, u_108_16, u_108_17, pm_O_some, pm_w_nil, pm_w_i, pm_w_l, pm_w_r, pm_w_n, pm_c_n, pm_c_i, pm_c_l, pm_c_r, pm_c_u, Nat.reduceAdd, Nat.reduceLeDiff, true_and, Option.toList_some, Option.toList_none, List.cons_append, List.nil_append, c3.p32]
  obtain ⟨c4, F4⟩ := c3.s32 (v := -1)
  simp only [u_108_20, u_108_21, pm_O_some, pm_w_nil, pm_w_i, pm_w_l, pm_w_r, pm_w_n, pm_c_n, pm_c_i, pm_c_l, pm_c_r, pm_c_u, Nat.reduceAdd, Nat.reduceLeDiff, true_and, Option.toList_some, Option.toList_none, List.cons_append, List.nil_append]
  refine loop nr 0 _ _ (by omega) ((m2.obj F3.fx c3).obj F4.fx c4) c4 ?_ ?_ (fun j hj => ?_) (((F1.rs.trans F2.rs).trans F3.os).trans F4.os)
  · exact ⟨rfl, rfl, dp_0⟩
  · exact ⟨rfl, rfl, dp_0⟩
  · rw [ups_n (by omega), ups_n (by omega)]
theorem wrg_e {A : Prop} (hp : pt = -1 → A) (hn : ¬ pt = -1 → A) : A := by
  by_cases c : pt = -1
  · exact hp c
  · exact hn c
theorem r_sum (so : SO n bs ln tx nr sz tm nd dy nl lm ll jk) (n1 : MI B h m n bs ln tx nr sz tm nd dy nl lm ll jk) (hg : vb n b ∧ (0 ≤ ax.toInt ∧ ax.toInt ≤ 2) ∧ (0 ≤ wh.toInt ∧ wh.toInt ≤ 2) ∧ -1 ≤ pt.toInt → ∀ h', MI B h' m n bs ln tx nr sz tm nd dy nl lm ll jk → Frm B h h' m (m + 24) → Q (some (.long (prt (wq (LM (bs (ix b)) nr sz tm (ix ax)).1 (GM (bs (ix b)) nr sz tm (ix ax)).1 (ix wh)) pt))) h')
    (hb : ¬ (vb n b ∧ (0 ≤ ax.toInt ∧ ax.toInt ≤ 2) ∧ (0 ≤ wh.toInt ∧ wh.toInt ≤ 2) ∧ -1 ≤ pt.toInt) → Q (some (.long (wrg pt))) h) :
    PW B X 107 0 [some (.ref m), some (.int b), some (.int ax), some (.int wh), some (.int pt)] [] h Q := by
  have hn := so.1.1
  obtain ⟨⟨x8, x9, x13, jh, jm, x31, x32, c, cj⟩, _⟩ := id n1
  have bad : ¬ (vb n b ∧ (0 ≤ ax.toInt ∧ ax.toInt ≤ 2) ∧ (0 ≤ wh.toInt ∧ wh.toInt ≤ 2) ∧ -1 ≤ pt.toInt) → PW B X 107 38 [some (.ref m), some (.int b), some (.int ax), some (.int wh), some (.int pt)] [] h Q := by
    intro z
    have hb2 := hb z
    unfold wrg at hb2
    by_cases c1 : pt = -1
    · rw [if_pos c1] at hb2
      simp only [u_107_38, u_107_40, u_107_41, u_107_44, u_107_47, u_107_50, u_107_53, pm_O_some, pm_w_nil, pm_w_i, pm_w_l, pm_w_r, pm_w_n, pm_c_n, pm_c_i, pm_c_l, pm_c_r, pm_c_u, Nat.reduceAdd, Nat.reduceLeDiff, true_and, Option.toList_some, Option.toList_none, List.cons_append, List.nil_append, c1, not_true, if_false]
      exact hb2
    · rw [if_neg c1] at hb2
      simp only [u_107_38, u_107_40, u_107_41, u_107_44, u_107_47, u_107_50, u_107_53, pm_O_some, pm_w_nil, pm_w_i, pm_w_l, pm_w_r, pm_w_n, pm_c_n, pm_c_i, pm_c_l, pm_c_r, pm_c_u, Nat.reduceAdd, Nat.reduceLeDiff, true_and, Option.toList_some, Option.toList_none, List.cons_append, List.nil_append, c1, not_false_eq_true, if_true]
      exact hb2
  by_cases h1 : ¬ (0 ≤ b.toInt ∧ b.toInt < (n : Int))
  · simp only [u_107_0, u_107_0n, u_107_1, u_107_2, u_107_5, pm_O_some, pm_w_nil, pm_w_i, pm_w_l, pm_w_r, pm_w_n, pm_c_n, pm_c_i, pm_c_l, pm_c_r, pm_c_u, Nat.reduceAdd, Nat.reduceLeDiff, true_and, Option.toList_some, Option.toList_none, List.cons_append, List.nil_append, c.io, s_isB c hn, one0, ite_not, if_neg h1]
    exact bad (fun z => h1 z.1)
  replace h1 := Decidable.not_not.mp h1
  by_cases h2 : ¬ (0 ≤ ax.toInt ∧ ax.toInt ≤ 2)
  · simp only [u_107_0, u_107_0n, u_107_1, u_107_2, u_107_5, u_107_8, u_107_9, u_107_10, u_107_11, u_107_14, u_107_17, pm_O_some, pm_w_nil, pm_w_i, pm_w_l, pm_w_r, pm_w_n, pm_c_n, pm_c_i, pm_c_l, pm_c_r, pm_c_u, Nat.reduceAdd, Nat.reduceLeDiff, true_and, Option.toList_some, Option.toList_none, List.cons_append, List.nil_append, c.io, s_isB c hn, s_in, wl (a := 0) (b := 2) (p := 0) (q := 2) rfl rfl, one0, ite_not, if_pos h1, if_neg h2]
    exact bad (fun z => h2 z.2.1)
  replace h2 := Decidable.not_not.mp h2
  by_cases h3 : ¬ (0 ≤ wh.toInt ∧ wh.toInt ≤ 2)
  · simp only [u_107_0, u_107_0n, u_107_1, u_107_2, u_107_5, u_107_8, u_107_9, u_107_10, u_107_11, u_107_14, u_107_17, u_107_20, u_107_21, u_107_22, u_107_23, u_107_26, u_107_29, pm_O_some, pm_w_nil, pm_w_i, pm_w_l, pm_w_r, pm_w_n, pm_c_n, pm_c_i, pm_c_l, pm_c_r, pm_c_u, Nat.reduceAdd, Nat.reduceLeDiff, true_and, Option.toList_some, Option.toList_none, List.cons_append, List.nil_append, c.io, s_isB c hn, s_in, wl (a := 0) (b := 2) (p := 0) (q := 2) rfl rfl, one0, ite_not, if_pos h1, if_pos h2, if_neg h3]
    exact bad (fun z => h3 z.2.2.1)
  replace h3 := Decidable.not_not.mp h3
  by_cases h4 : ¬ (-1 ≤ pt)
  · simp only [u_107_0, u_107_0n, u_107_1, u_107_2, u_107_5, u_107_8, u_107_9, u_107_10, u_107_11, u_107_14, u_107_17, u_107_20, u_107_21, u_107_22, u_107_23, u_107_26, u_107_29, u_107_32, u_107_34, u_107_35, pm_O_some, pm_w_nil, pm_w_i, pm_w_l, pm_w_r, pm_w_n, pm_c_n, pm_c_i, pm_c_l, pm_c_r, pm_c_u, Nat.reduceAdd, Nat.reduceLeDiff, true_and, Option.toList_some, Option.toList_none, List.cons_append, List.nil_append, c.io, s_isB c hn, s_in, wl (a := 0) (b := 2) (p := 0) (q := 2) rfl rfl, one0, ite_not, if_pos h1, if_pos h2, if_pos h3, if_neg h4]
    exact bad (fun z => h4 (i_m1.mpr z.2.2.2))
  replace h4 := Decidable.not_not.mp h4
  have hg2 := hg ⟨h1, h2, h3, i_m1.mp h4⟩
  simp only [u_107_0, u_107_0n, u_107_1, u_107_2, u_107_5, u_107_8, u_107_9, u_107_10, u_107_11, u_107_14, u_107_17, u_107_20, u_107_21, u_107_22, u_107_23, u_107_26, u_107_29, u_107_32, u_107_34, u_107_35, u_107_38, u_107_40, u_107_41, u_107_44, u_107_47, u_107_50, u_107_53, u_107_54, u_107_54n, u_107_55, u_107_56, u_107_57, pm_O_some, pm_w_nil, pm_w_i, pm_w_l, pm_w_r, pm_w_n, pm_c_n, pm_c_i, pm_c_l, pm_c_r, pm_c_u, Nat.reduceAdd, Nat.reduceLeDiff, true_and, Option.toList_some, Option.toList_none, List.cons_append, List.nil_append, c.io, s_isB c hn, s_in, wl (a := 0) (b := 2) (p := 0) (q := 2) rfl rfl, one0, ite_not, if_pos h1, if_pos h2, if_pos h3, if_pos h4, i10, if_false]
  obtain ⟨i, hi, hbi, hxi⟩ := vb_e hn h1
  obtain ⟨a, ha, hai, hxa⟩ := vb_e (n := 3) (b := ax) (by omega) (by omega)
  obtain ⟨w, hw, hwi, hxw⟩ := vb_e (n := 3) (b := wh) (by omega) (by omega)
  rw [hxi, hxa, hxw] at hg2
  rw [hbi, hai, hwi]
  obtain ⟨R, ns⟩ : ∃ R, NS B h m R := n1.2.2.2.2.2.2.2.2.2.2.2.2
  obtain ⟨s1, s2⟩ := LM_s so hi ha (Nat.le_refl nr)
  refine c_sumAll so n1 ns hi ha (fun h' R' y0 y7 y8 y9 y10 y13 y19 y21 y24 y25 mi m1 q1 q2 q3 c1 F => ?_)
  have l39 : 1000000000 ^ 7 ≤ 1000000000 ^ 39 := by decide +kernel
  by_cases w2 : w = 2
  · subst w2
    have e2 : nI 2 = 2 := rfl
    simp only [u_107_60, u_107_60n, u_107_61, u_107_62, u_107_63, u_107_66, u_107_66n, u_107_67, pm_O_some, pm_w_nil, pm_w_i, pm_w_l, pm_w_r, pm_w_n, pm_c_n, pm_c_i, pm_c_l, pm_c_r, pm_c_u, Nat.reduceAdd, Nat.reduceLeDiff, true_and, Option.toList_some, Option.toList_none, List.cons_append, List.nil_append, e2, not_true, if_false, c1.io]
    refine c_worst m1 q1 q2 s1.s9 s2.s9 (fun h2 R2 v m2 hv q4 q5 F2 => ?_)
    simp only [u_107_70, u_107_73, u_107_74, u_107_76, pm_O_some, pm_w_nil, pm_w_i, pm_w_l, pm_w_r, pm_w_n, pm_c_n, pm_c_i, pm_c_l, pm_c_r, pm_c_u, Nat.reduceAdd, Nat.reduceLeDiff, true_and, Option.toList_some, Option.toList_none, List.cons_append, List.nil_append, m2.io]
    have ssm : sm7 (wq (LM (bs i) nr sz tm a).1 (GM (bs i) nr sz tm a).1 2) := by
      unfold wq
      rw [if_neg (by omega), if_neg (by omega)]
      split
      · exact s1
      · exact s2
    refine c_partOf m2 q4 (by omega) (by have := ssm.2; omega) (i_m1.mp h4) (fun h3 R3 m3 q6 F3 => ?_)
    simp only [u_107_79, pm_O_some, pm_w_nil, pm_w_i, pm_w_l, pm_w_r, pm_w_n, pm_c_n, pm_c_i, pm_c_l, pm_c_r, pm_c_u, Nat.reduceAdd, Nat.reduceLeDiff, true_and, Option.toList_some, Option.toList_none, List.cons_append, List.nil_append]
    exact hg2 h3 ((mi.regs F2.fx m2).regs F3.fx m3) ((F.fm.trans (F2.mono (by omega) (by omega))).trans (F3.mono (by omega) (by omega)))
  · have e2 : ¬ nI w = 2 := fun z => w2 ((nI_eq (b := 2) (by omega) (by decide)).mp z)
    simp only [u_107_60, u_107_60n, u_107_61, u_107_62, u_107_63, u_107_73, u_107_74, u_107_76, pm_O_some, pm_w_nil, pm_w_i, pm_w_l, pm_w_r, pm_w_n, pm_c_n, pm_c_i, pm_c_l, pm_c_r, pm_c_u, Nat.reduceAdd, Nat.reduceLeDiff, true_and, Option.toList_some, Option.toList_none, List.cons_append, List.nil_append, e2, not_false_eq_true, if_true, c1.io]
    have hq : rgq (R' w) (wq (LM (bs i) nr sz tm a).1 (GM (bs i) nr sz tm a).1 w) ∧ sm7 (wq (LM (bs i) nr sz tm a).1 (GM (bs i) nr sz tm a).1 w) := by
      unfold wq
      rcases (show w = 0 ∨ w = 1 by omega) with z | z
      · rw [if_pos z, z]; exact ⟨q1, s1⟩
      · rw [if_neg (by omega), if_pos z, z]; exact ⟨q2, s2⟩
    refine c_partOf m1 hq.1 (by omega) (by have := hq.2.2; omega) (i_m1.mp h4) (fun h3 R3 m3 q6 F3 => ?_)
    simp only [u_107_79, pm_O_some, pm_w_nil, pm_w_i, pm_w_l, pm_w_r, pm_w_n, pm_c_n, pm_c_i, pm_c_l, pm_c_r, pm_c_u, Nat.reduceAdd, Nat.reduceLeDiff, true_and, Option.toList_some, Option.toList_none, List.cons_append, List.nil_append]
    exact hg2 h3 (mi.regs F3.fx m3) (F.fm.trans (F3.mono (by omega) (by omega)))
theorem r_caseOf (so : SO n bs ln tx nr sz tm nd dy nl lm ll jk) (n1 : MI B h m n bs ln tx nr sz tm nd dy nl lm ll jk) (hg : vb n b ∧ (0 ≤ ax.toInt ∧ ax.toInt ≤ 2) ∧ (0 ≤ wh.toInt ∧ wh.toInt ≤ 1) → ∀ h', MI B h' m n bs ln tx nr sz tm nd dy nl lm ll jk → Frm B h h' m (m + 24) → Q (some (.int (if wh = 0 then (LM (bs (ix b)) nr sz tm (ix ax)).2 else (GM (bs (ix b)) nr sz tm (ix ax)).2))) h')
    (hb : ¬ (vb n b ∧ (0 ≤ ax.toInt ∧ ax.toInt ≤ 2) ∧ (0 ≤ wh.toInt ∧ wh.toInt ≤ 1)) → Q (some (.int (-1))) h) :
    PW B X 125 0 [some (.ref m), some (.int b), some (.int ax), some (.int wh)] [] h Q := by
  have hn := so.1.1
  have hnr := so.2.2.1.1
  obtain ⟨⟨x8, x9, x13, jh, jm, x31, x32, c, cj⟩, _⟩ := id n1
  by_cases h1 : ¬ (0 ≤ b.toInt ∧ b.toInt < (n : Int))
  · simp only [u_125_0, u_125_0n, u_125_1, u_125_2, u_125_5, u_125_37, u_125_38, pm_O_some, pm_w_nil, pm_w_i, pm_w_l, pm_w_r, pm_w_n, pm_c_n, pm_c_i, pm_c_l, pm_c_r, pm_c_u, Nat.reduceAdd, Nat.reduceLeDiff, true_and, Option.toList_some, Option.toList_none, List.cons_append, List.nil_append, c.io, s_isB c hn, one0, ite_not, if_neg h1]
    exact hb (fun z => h1 z.1)
  replace h1 := Decidable.not_not.mp h1
  by_cases h2 : ¬ (0 ≤ ax.toInt ∧ ax.toInt ≤ 2)
  · simp only [u_125_0, u_125_0n, u_125_1, u_125_2, u_125_5, u_125_8, u_125_9, u_125_10, u_125_11, u_125_14, u_125_17, u_125_37, u_125_38, pm_O_some, pm_w_nil, pm_w_i, pm_w_l, pm_w_r, pm_w_n, pm_c_n, pm_c_i, pm_c_l, pm_c_r, pm_c_u, Nat.reduceAdd, Nat.reduceLeDiff, true_and, Option.toList_some, Option.toList_none, List.cons_append, List.nil_append, c.io, s_isB c hn, s_in, wl (a := 0) (b := 2) (p := 0) (q := 2) rfl rfl, one0, ite_not, if_pos h1, if_neg h2]
    exact hb (fun z => h2 z.2.1)
  replace h2 := Decidable.not_not.mp h2
  by_cases h3 : ¬ (0 ≤ wh.toInt ∧ wh.toInt ≤ 1)
  · simp only [u_125_0, u_125_0n, u_125_1, u_125_2, u_125_5, u_125_8, u_125_9, u_125_10, u_125_11, u_125_14, u_125_17, u_125_20, u_125_21, u_125_22, u_125_23, u_125_24, u_125_27, u_125_37, u_125_38, pm_O_some, pm_w_nil, pm_w_i, pm_w_l, pm_w_r, pm_w_n, pm_c_n, pm_c_i, pm_c_l, pm_c_r, pm_c_u, Nat.reduceAdd, Nat.reduceLeDiff, true_and, Option.toList_some, Option.toList_none, List.cons_append, List.nil_append, c.io, s_isB c hn, s_in, wl (a := 0) (b := 2) (p := 0) (q := 2) rfl rfl, wl (a := 0) (b := 1) (p := 0) (q := 1) rfl rfl, one0, ite_not, if_pos h1, if_pos h2, if_neg h3]
    exact hb (fun z => h3 z.2.2)
  replace h3 := Decidable.not_not.mp h3
  have hg2 := hg ⟨h1, h2, h3⟩
  obtain ⟨i, hi, hbi, hxi⟩ := vb_e hn h1
  obtain ⟨a, ha, hai, hxa⟩ := vb_e (n := 3) (b := ax) (by omega) (by omega)
  rw [hxi, hxa] at hg2
  by_cases r0 : nr = 0
  · have e0 : nI nr = 0 := by rw [r0]; rfl
    simp only [u_125_0, u_125_0n, u_125_1, u_125_2, u_125_5, u_125_8, u_125_9, u_125_10, u_125_11, u_125_14, u_125_17, u_125_20, u_125_21, u_125_22, u_125_23, u_125_24, u_125_27, u_125_30, u_125_30n, u_125_31, u_125_34, u_125_37, u_125_38, pm_O_some, pm_w_nil, pm_w_i, pm_w_l, pm_w_r, pm_w_n, pm_c_n, pm_c_i, pm_c_l, pm_c_r, pm_c_u, Nat.reduceAdd, Nat.reduceLeDiff, true_and, Option.toList_some, Option.toList_none, List.cons_append, List.nil_append, c.io, s_isB c hn, s_in, wl (a := 0) (b := 2) (p := 0) (q := 2) rfl rfl, wl (a := 0) (b := 1) (p := 0) (q := 1) rfl rfl, one0, ite_not, if_pos h1, if_pos h2, if_pos h3, c.g10, if_pos e0]
    have hg3 := hg2 h n1 Frm.rfl'
    have t : (if wh = 0 then (LM (bs i) nr sz tm a).2 else (GM (bs i) nr sz tm a).2) = -1 := by
      subst r0
      split <;> rfl
    rw [t] at hg3
    exact hg3
  have e0 : ¬ nI nr = 0 := mt (nI_e0 (by omega)).mp r0
  simp only [u_125_0, u_125_0n, u_125_1, u_125_2, u_125_5, u_125_8, u_125_9, u_125_10, u_125_11, u_125_14, u_125_17, u_125_20, u_125_21, u_125_22, u_125_23, u_125_24, u_125_27, u_125_30, u_125_30n, u_125_31, u_125_34, u_125_37, u_125_38, u_125_39, u_125_39n, u_125_40, u_125_41, u_125_42, pm_O_some, pm_w_nil, pm_w_i, pm_w_l, pm_w_r, pm_w_n, pm_c_n, pm_c_i, pm_c_l, pm_c_r, pm_c_u, Nat.reduceAdd, Nat.reduceLeDiff, true_and, Option.toList_some, Option.toList_none, List.cons_append, List.nil_append, c.io, s_isB c hn, s_in, wl (a := 0) (b := 2) (p := 0) (q := 2) rfl rfl, wl (a := 0) (b := 1) (p := 0) (q := 1) rfl rfl, one0, ite_not, if_pos h1, if_pos h2, if_pos h3, c.g10, if_neg e0, i10, if_false]
  rw [hbi, hai]
  obtain ⟨R, ns⟩ : ∃ R, NS B h m R := n1.2.2.2.2.2.2.2.2.2.2.2.2
  refine c_sumAll so n1 ns hi ha (fun h' R' y0 y7 y8 y9 y10 y13 y19 y21 y24 y25 mi m1 q1 q2 q3 c1 F => ?_)
  by_cases w0 : wh = 0
  · rw [if_pos w0] at hg2
    simp only [u_125_45, u_125_46, u_125_49, u_125_49n, u_125_50, u_125_53, u_125_56, u_125_56n, u_125_57, u_125_60, pm_O_some, pm_w_nil, pm_w_i, pm_w_l, pm_w_r, pm_w_n, pm_c_n, pm_c_i, pm_c_l, pm_c_r, pm_c_u, Nat.reduceAdd, Nat.reduceLeDiff, true_and, Option.toList_some, Option.toList_none, List.cons_append, List.nil_append, w0, not_true, if_false, c1.g31]
    exact hg2 h' mi F.fm
  · rw [if_neg w0] at hg2
    simp only [u_125_45, u_125_46, u_125_49, u_125_49n, u_125_50, u_125_53, u_125_56, u_125_56n, u_125_57, u_125_60, pm_O_some, pm_w_nil, pm_w_i, pm_w_l, pm_w_r, pm_w_n, pm_c_n, pm_c_i, pm_c_l, pm_c_r, pm_c_u, Nat.reduceAdd, Nat.reduceLeDiff, true_and, Option.toList_some, Option.toList_none, List.cons_append, List.nil_append, w0, not_false_eq_true, if_true, c1.g32]
    exact hg2 h' mi F.fm
end ALL

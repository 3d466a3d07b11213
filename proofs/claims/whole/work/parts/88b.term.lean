/-! THE REFERENCE'S PARSER: readTerm. -/
section PTT
variable {B : Nat} {X : pm_X} {h h' h2 : pm_H} {Q : Option Value → pm_H → Prop} {m ln p p2 r k d s D : Nat} {tx : Nat → Nat} {x0 x10 x19 x21 x24 x25 x31 x32 w w2 v : Int32} {fd fr fd2 fr2 : Nat → Int32}
theorem lkk (hb : ∀ i, i < ln → 32 ≤ tx i ∧ tx i ≤ 126) : lk tx ln p < 2 ^ 31 := by
  have := lk_b (p := p) hb
  omega
theorem p_tail {c1 : Option Value} (n1 : PS B h m ln tx x0 x10 x19 x21 x24 x25 x31 x32 p w r fd fr) (hr : r < 8) (hfd : fd r = nI s) (hD : D + 3 < 192)
    (hg : 97 ≤ lk tx ln p ∧ lk tx ln p ≤ 104 → ∀ h', PS B h' m ln tx x0 x10 x19 x21 x24 x25 x31 x32 (sk tx ln (p + 1)) w r (upd fd r (nI (s + 1))) (upd fr (D + 3) (nI (lk tx ln p - 97))) → Frz B h h' m → Q none h')
    (hb : ¬ (97 ≤ lk tx ln p ∧ lk tx ln p ≤ 104) → ∀ h', PS B h' m ln tx x0 x10 x19 x21 x24 x25 x31 x32 p (if 0 ≤ w then w else nI p) r fd fr → Frz B h h' m → Q none h') :
    PW B X 103 181 [some (.ref m), c1, some (.int (nI D))] [] h Q := by
  have b9 := n1.2.2.2.2.2.2.2.2
  have b8 := n1.2.2.2.2.2.2.2.1
  have b7 := n1.2.2.2.2.2.2.1
  have hk := lkk (p := p) b9
  have e1 : (nI (lk tx ln p) < 97) ↔ lk tx ln p < 97 := by
    rw [i_lt, nI_toInt hk]
    show (lk tx ln p : Int) < 97 ↔ _
    omega
  have e2 : (nI (lk tx ln p) ≤ 104) ↔ lk tx ln p ≤ 104 := by
    rw [i_le, nI_toInt hk]
    show (lk tx ln p : Int) ≤ 104 ↔ _
    omega
  have bad : ¬ (97 ≤ lk tx ln p ∧ lk tx ln p ≤ 104) → PW B X 103 199 [some (.ref m), c1, some (.int (nI D))] [] h Q := by
    intro z
    simp only [u_103_199, u_103_199n, u_103_200, u_103_200n, u_103_201, u_103_204, pm_O_some, pm_w_nil, pm_w_i, pm_w_l, pm_w_r, pm_w_n, pm_c_n, pm_c_i, pm_c_l, pm_c_r, pm_c_u, Nat.reduceAdd, Nat.reduceLeDiff, true_and, Option.toList_some, Option.toList_none, List.cons_append, List.nil_append, n1.1.g8, n1.io]
    refine p_mark n1 (fun h2 m2 F2 => ?_)
    simp only [u_103_207, pm_O_some, pm_w_nil, pm_w_i, pm_w_l, pm_w_r, pm_w_n, pm_c_n, pm_c_i, pm_c_l, pm_c_r, pm_c_u, Nat.reduceAdd, Nat.reduceLeDiff, true_and, Option.toList_some, Option.toList_none, List.cons_append, List.nil_append]
    exact hb z h2 m2 F2
  by_cases c2 : lk tx ln p < 97
  · simp only [u_103_181, u_103_181n, u_103_182, u_103_185, u_103_187, pm_O_some, pm_w_nil, pm_w_i, pm_w_l, pm_w_r, pm_w_n, pm_c_n, pm_c_i, pm_c_l, pm_c_r, pm_c_u, Nat.reduceAdd, Nat.reduceLeDiff, true_and, Option.toList_some, Option.toList_none, List.cons_append, List.nil_append, n1.io, p_look n1, if_pos (e1.mpr c2)]
    exact bad (by omega)
  · by_cases c3 : lk tx ln p ≤ 104
    · have hpl : p < ln := by
        rcases Nat.lt_or_ge p ln with z | z
        · exact z
        · have : lk tx ln p = 0 := if_neg (by omega)
          omega
      have e3 : nI D + 3 = nI (D + 3) := nI_add _ 3
      have b6 := n1.2.2.2.2.2.1
      simp only [u_103_181, u_103_181n, u_103_182, u_103_185, u_103_187, u_103_190, u_103_190n, u_103_191, u_103_194, u_103_196, u_103_199, u_103_199n, u_103_200, u_103_200n, u_103_201, u_103_204, u_103_207, u_103_208, u_103_208n, u_103_209, u_103_212, u_103_213, u_103_214, u_103_215, u_103_215n, u_103_216, u_103_219, u_103_221, u_103_222, pm_O_some, pm_w_nil, pm_w_i, pm_w_l, pm_w_r, pm_w_n, pm_c_n, pm_c_i, pm_c_l, pm_c_r, pm_c_u, Nat.reduceAdd, Nat.reduceLeDiff, true_and, Option.toList_some, Option.toList_none, List.cons_append, List.nil_append, n1.io, p_look n1, if_neg (mt e1.mp c2), if_pos (e2.mpr c3), n1.1.g15, e3, nI_m97 (show 97 ≤ lk tx ln p by omega), b6, st_i (t := 0) (ix_192 hD) rfl, nI_clamp (show D + 3 < 2 ^ 31 by omega), ty_0]
      obtain ⟨m2, F2⟩ := n1.put10 (upd fr (D + 3) (nI (lk tx ln p - 97)))
      have c := m2.1
      simp only [u_103_223, u_103_223n, u_103_224, u_103_224i, u_103_225, u_103_228, u_103_229, u_103_230, pm_O_some, pm_w_nil, pm_w_i, pm_w_l, pm_w_r, pm_w_n, pm_c_n, pm_c_i, pm_c_l, pm_c_r, pm_c_u, Nat.reduceAdd, Nat.reduceLeDiff, true_and, Option.toList_some, Option.toList_none, List.cons_append, List.nil_append, c.g8, nI_1, c.p8]
      obtain ⟨c3', F3⟩ := c.s8 (v := nI (p + 1))
      have m3 := m2.obj F3 c3' (p2 := p + 1) (by omega)
      simp only [u_103_233, u_103_233n, u_103_234, pm_O_some, pm_w_nil, pm_w_i, pm_w_l, pm_w_r, pm_w_n, pm_c_n, pm_c_i, pm_c_l, pm_c_r, pm_c_u, Nat.reduceAdd, Nat.reduceLeDiff, true_and, Option.toList_some, Option.toList_none, List.cons_append, List.nil_append, m3.io]
      refine p_skip m3 (fun h4 m4 F4 => ?_)
      have b5 := m4.2.2.2.2.1
      simp only [u_103_237, u_103_237n, u_103_238, u_103_241, u_103_241n, u_103_242, u_103_245, u_103_246, u_103_247, u_103_248, u_103_249, pm_O_some, pm_w_nil, pm_w_i, pm_w_l, pm_w_r, pm_w_n, pm_c_n, pm_c_i, pm_c_l, pm_c_r, pm_c_u, Nat.reduceAdd, Nat.reduceLeDiff, true_and, Option.toList_some, Option.toList_none, List.cons_append, List.nil_append, m4.1.g14, m4.1.g13, b5, ld_i (t := 0) (ix_8 hr) rfl, st_i (t := 0) (ix_8 hr) rfl, nI_clamp (show r < 2 ^ 31 by omega), hfd, nI_1, ty_0]
      obtain ⟨m5, F5⟩ := m4.put9 (upd fd r (nI (s + 1)))
      simp only [u_103_250, pm_O_some, pm_w_nil, pm_w_i, pm_w_l, pm_w_r, pm_w_n, pm_c_n, pm_c_i, pm_c_l, pm_c_r, pm_c_u, Nat.reduceAdd, Nat.reduceLeDiff, true_and, Option.toList_some, Option.toList_none, List.cons_append, List.nil_append]
      exact hg (by omega) _ m5 (((F2.trans F3.zo).trans F4).trans F5)
    · simp only [u_103_181, u_103_181n, u_103_182, u_103_185, u_103_187, u_103_190, u_103_190n, u_103_191, u_103_194, u_103_196, pm_O_some, pm_w_nil, pm_w_i, pm_w_l, pm_w_r, pm_w_n, pm_c_n, pm_c_i, pm_c_l, pm_c_r, pm_c_u, Nat.reduceAdd, Nat.reduceLeDiff, true_and, Option.toList_some, Option.toList_none, List.cons_append, List.nil_append, n1.io, p_look n1, if_neg (mt e1.mp c2), if_neg (mt e2.mp c3)]
      exact bad (by omega)
/-- the parser has failed at w -/
def PF (B : Nat) (h : pm_H) (m ln : Nat) (tx : Nat → Nat) (x0 x10 x19 x21 x24 x25 x31 x32 : Int32) (w r : Nat) : Prop := w ≤ 200 ∧ ∃ p fd fr, PS B h m ln tx x0 x10 x19 x21 x24 x25 x31 x32 p (nI w) r fd fr
theorem nI_ge0 {k : Nat} (h : k < 2 ^ 31) : (0 : Int32) ≤ nI k := nI_pos' h
set_option maxHeartbeats 1000000 in
theorem p_term (n1 : PS B h m ln tx x0 x10 x19 x21 x24 x25 x31 x32 p (-1) r fd fr) (hr : r < 8) (hfd : fd r = nI s) (hs : s ≤ 6)
    (hb : ∀ w h', (s = 6 ∧ w = sk tx ln p ∨ ¬ s = 6 ∧ trm tx ln (sk tx ln p) = .inl w) → PF B h' m ln tx x0 x10 x19 x21 x24 x25 x31 x32 w r → Frz B h h' m → Q none h')
    (hg : s < 6 → ∀ T q h' fr', trm tx ln (sk tx ln p) = .inr (T, q) → PS B h' m ln tx x0 x10 x19 x21 x24 x25 x31 x32 (sk tx ln q) (-1) r (upd fd r (nI (s + 1))) fr' → trw fr' (4 * (6 * r + s)) T → (∀ j, ¬ (4 * (6 * r + s) ≤ j ∧ j < 4 * (6 * r + s) + 4) → fr' j = fr j) → Frz B h h' m → Q none h') :
    PW B X 103 0 [some (.ref m), none, none] [] h Q := by
  have b9 := n1.2.2.2.2.2.2.2.2
  have b8 := n1.2.2.2.2.2.2.2.1
  have b7 := n1.2.2.2.2.2.2.1
  have nn : ¬ (0 : Int32) ≤ -1 := by decide
  simp only [u_103_0, u_103_0n, u_103_1, pm_O_some, pm_w_nil, pm_w_i, pm_w_l, pm_w_r, pm_w_n, pm_c_n, pm_c_i, pm_c_l, pm_c_r, pm_c_u, Nat.reduceAdd, Nat.reduceLeDiff, true_and, Option.toList_some, Option.toList_none, List.cons_append, List.nil_append, n1.io]
  refine p_skip n1 (fun h1 m1 F1 => ?_)
  generalize hp1 : sk tx ln p = p1 at *
  have q1 := m1.2.2.2.2.2.2.1
  have hk := lkk (p := p1) b9
  simp only [u_103_4, u_103_4n, u_103_5, u_103_8, pm_O_some, pm_w_nil, pm_w_i, pm_w_l, pm_w_r, pm_w_n, pm_c_n, pm_c_i, pm_c_l, pm_c_r, pm_c_u, Nat.reduceAdd, Nat.reduceLeDiff, true_and, Option.toList_some, Option.toList_none, List.cons_append, List.nil_append, m1.io, p_look m1]
  have r43 : (nI (lk tx ln p1) = 43) ↔ lk tx ln p1 = 43 := nI_eq (b := 43) hk (by decide)
  have r45 : (nI (lk tx ln p1) = 45) ↔ lk tx ln p1 = 45 := nI_eq (b := 45) hk (by decide)
  have r42 : (nI (lk tx ln p1) = 42) ↔ lk tx ln p1 = 42 := nI_eq (b := 42) hk (by decide)
  have bad41 : (¬ s = 6 → trm tx ln p1 = .inl p1) → PW B X 103 41 [some (.ref m), some (.int (nI (lk tx ln p1))), none] [] h1 Q := by
    intro z
    simp only [u_103_41, u_103_41n, u_103_42, u_103_42n, u_103_43, u_103_46, pm_O_some, pm_w_nil, pm_w_i, pm_w_l, pm_w_r, pm_w_n, pm_c_n, pm_c_i, pm_c_l, pm_c_r, pm_c_u, Nat.reduceAdd, Nat.reduceLeDiff, true_and, Option.toList_some, Option.toList_none, List.cons_append, List.nil_append, m1.1.g8, m1.io]
    refine p_mark m1 (fun h2 m2 F2 => ?_)
    rw [if_neg nn] at m2
    simp only [u_103_49, pm_O_some, pm_w_nil, pm_w_i, pm_w_l, pm_w_r, pm_w_n, pm_c_n, pm_c_i, pm_c_l, pm_c_r, pm_c_u, Nat.reduceAdd, Nat.reduceLeDiff, true_and, Option.toList_some, Option.toList_none, List.cons_append, List.nil_append]
    refine hb p1 h2 ?_ ⟨by omega, _, _, _, m2⟩ (F1.trans F2)
    by_cases c : s = 6
    · exact Or.inl ⟨c, rfl⟩
    · exact Or.inr ⟨c, z c⟩
  have good : (lk tx ln p1 = 43 ∨ lk tx ln p1 = 45 ∨ lk tx ln p1 = 42) → PW B X 103 27 [some (.ref m), some (.int (nI (lk tx ln p1))), none] [] h1 Q := by
    intro hsg
    have b5 := m1.2.2.2.2.1
    have hpl : p1 < ln := by
      rcases Nat.lt_or_ge p1 ln with z | z
      · exact z
      · have : lk tx ln p1 = 0 := if_neg (by omega)
        omega
    by_cases c6 : s = 6
    · have e6 : ¬ ¬ nI s = 6 := fun z => z (by rw [c6]; rfl)
      simp only [u_103_27, u_103_27n, u_103_28, u_103_31, u_103_31n, u_103_32, u_103_35, u_103_36, u_103_38, pm_O_some, pm_w_nil, pm_w_i, pm_w_l, pm_w_r, pm_w_n, pm_c_n, pm_c_i, pm_c_l, pm_c_r, pm_c_u, Nat.reduceAdd, Nat.reduceLeDiff, true_and, Option.toList_some, Option.toList_none, List.cons_append, List.nil_append, m1.1.g14, m1.1.g13, b5, ld_i (t := 0) (ix_8 hr) rfl, nI_clamp (show r < 2 ^ 31 by omega), hfd, if_neg e6]
      exact bad41 (fun z => absurd c6 z)
    have e6 : ¬ nI s = 6 := fun z => c6 ((nI_eq (b := 6) (by omega) (by decide)).mp z)
    have xD : (4 : Int32) * (6 * nI r + nI s) = nI (4 * (6 * r + s)) := by
      rw [show (6 : Int32) = nI 6 from rfl, show (4 : Int32) = nI 4 from rfl, nI_mul, nI_add, nI_mul]
    have hD : 4 * (6 * r + s) + 3 < 192 := by omega
    have trm_d : trm tx ln p1 = _ := if_pos hsg
    generalize hDD : 4 * (6 * r + s) = D at *
    have xD1 : nI D + 1 = nI (D + 1) := nI_add _ 1
    have xD2 : nI D + 2 = nI (D + 2) := nI_add _ 2
    have b6 := m1.2.2.2.2.2.1
    simp only [u_103_27, u_103_27n, u_103_28, u_103_31, u_103_31n, u_103_32, u_103_35, u_103_36, u_103_38, u_103_41, u_103_41n, u_103_42, u_103_42n, u_103_43, u_103_46, u_103_49, u_103_50, u_103_51, u_103_53, u_103_53n, u_103_54, u_103_57, u_103_58, u_103_58n, u_103_59, u_103_62, u_103_62n, u_103_63, u_103_66, u_103_67, u_103_68, u_103_69, u_103_70, u_103_70n, u_103_71, u_103_74, u_103_75, u_103_76, pm_O_some, pm_w_nil, pm_w_i, pm_w_l, pm_w_r, pm_w_n, pm_c_n, pm_c_i, pm_c_l, pm_c_r, pm_c_u, Nat.reduceAdd, Nat.reduceLeDiff, true_and, Option.toList_some, Option.toList_none, List.cons_append, List.nil_append, m1.1.g14, m1.1.g13, m1.1.g15, b5, b6, ld_i (t := 0) (ix_8 hr) rfl, nI_clamp (show r < 2 ^ 31 by omega), hfd, if_pos e6, xD, st_i (t := 0) (ix_192 (show D < 192 by omega)) rfl, nI_clamp (show D < 2 ^ 31 by omega), ty_0]
    obtain ⟨m2, F2⟩ := m1.put10 (upd fr D (nI (lk tx ln p1)))
    have b62 := m2.2.2.2.2.2.1
    simp only [u_103_77, u_103_77n, u_103_78, u_103_81, u_103_82, u_103_83, u_103_84, u_103_85, pm_O_some, pm_w_nil, pm_w_i, pm_w_l, pm_w_r, pm_w_n, pm_c_n, pm_c_i, pm_c_l, pm_c_r, pm_c_u, Nat.reduceAdd, Nat.reduceLeDiff, true_and, Option.toList_some, Option.toList_none, List.cons_append, List.nil_append, m2.1.g15, b62, xD1, st_i (t := 0) (ix_192 (show D + 1 < 192 by omega)) rfl, nI_clamp (show D + 1 < 2 ^ 31 by omega), ty_0]
    obtain ⟨m3, F3⟩ := m2.put10 (upd (upd fr D (nI (lk tx ln p1))) (D + 1) 1)
    have b63 := m3.2.2.2.2.2.1
    simp only [u_103_86, u_103_86n, u_103_87, u_103_90, u_103_91, u_103_92, u_103_93, u_103_94, pm_O_some, pm_w_nil, pm_w_i, pm_w_l, pm_w_r, pm_w_n, pm_c_n, pm_c_i, pm_c_l, pm_c_r, pm_c_u, Nat.reduceAdd, Nat.reduceLeDiff, true_and, Option.toList_some, Option.toList_none, List.cons_append, List.nil_append, m3.1.g15, b63, xD2, st_i (t := 0) (ix_192 (show D + 2 < 192 by omega)) rfl, nI_clamp (show D + 2 < 2 ^ 31 by omega), ty_0]
    obtain ⟨m4, F4⟩ := m3.put10 (upd (upd (upd fr D (nI (lk tx ln p1))) (D + 1) 1) (D + 2) 1)
    have c := m4.1
    simp only [u_103_95, u_103_95n, u_103_96, u_103_96i, u_103_97, u_103_100, u_103_101, u_103_102, pm_O_some, pm_w_nil, pm_w_i, pm_w_l, pm_w_r, pm_w_n, pm_c_n, pm_c_i, pm_c_l, pm_c_r, pm_c_u, Nat.reduceAdd, Nat.reduceLeDiff, true_and, Option.toList_some, Option.toList_none, List.cons_append, List.nil_append, c.g8, nI_1, c.p8]
    obtain ⟨c5, F5⟩ := c.s8 (v := nI (p1 + 1))
    have m5 := m4.obj F5 c5 (p2 := p1 + 1) (by omega)
    simp only [u_103_105, u_103_105n, u_103_106, pm_O_some, pm_w_nil, pm_w_i, pm_w_l, pm_w_r, pm_w_n, pm_c_n, pm_c_i, pm_c_l, pm_c_r, pm_c_u, Nat.reduceAdd, Nat.reduceLeDiff, true_and, Option.toList_some, Option.toList_none, List.cons_append, List.nil_append, m5.io]
    refine p_skip m5 (fun h6 m6 F6 => ?_)
    have G6 := ((((F1.trans F2).trans F3).trans F4).trans F5.zo).trans F6
    generalize hp2 : sk tx ln (p1 + 1) = p2 at *
    have q2 := m6.2.2.2.2.2.2.1
    -- the term's tail
    have okT : ∀ hc p5 u l fr2, PS B hc m ln tx x0 x10 x19 x21 x24 x25 x31 x32 p5 (-1) r fd fr2 → fr2 D = nI (lk tx ln p1) → fr2 (D + 1) = nI u → fr2 (D + 2) = nI l → (∀ j, ¬ (D ≤ j ∧ j < D + 4) → fr2 j = fr j) → Frz B h hc m → trm tx ln p1 = tml tx ln (lk tx ln p1) u l p5 → PW B X 103 181 [some (.ref m), some (.int (nI (lk tx ln p1))), some (.int (nI D))] [] hc Q := by
      intro hc p5 u l fr2 m1 t1 t2 t3 t4 F ht
      have q5 := m1.2.2.2.2.2.2.1
      unfold tml at ht
      refine p_tail m1 hr hfd hD (fun z h2 m2 F2 => ?_) (fun z h2 m2 F2 => ?_)
      · rw [if_pos z] at ht
        refine hg (by omega) _ _ h2 _ ht m2 ⟨?_, ?_, ?_, ?_⟩ (fun j hj => ?_) (F.trans F2)
        · rw [upd_n (by omega)]; exact t1
        · rw [upd_n (by omega)]; exact t2
        · rw [upd_n (by omega)]; exact t3
        · exact upd_s
        · rw [upd_n (by omega)]; exact t4 j hj
      · rw [if_neg z] at ht
        rw [if_neg nn] at m2
        exact hb p5 h2 (Or.inr ⟨c6, ht⟩) ⟨by omega, _, _, _, m2⟩ (F.trans F2)
    have badT : ∀ hc p5 w fr2, PS B hc m ln tx x0 x10 x19 x21 x24 x25 x31 x32 p5 (nI w) r fd fr2 → w ≤ 200 → Frz B h hc m → trm tx ln p1 = .inl w → PW B X 103 181 [some (.ref m), some (.int (nI (lk tx ln p1))), some (.int (nI D))] [] hc Q := by
      intro hc p5 w fr2 m1 hw F ht
      refine p_tail m1 hr hfd hD (fun z h2 m2 F2 => ?_) (fun z h2 m2 F2 => ?_)
      · exact hb w h2 (Or.inr ⟨c6, ht⟩) ⟨hw, _, _, _, m2⟩ (F.trans F2)
      · rw [if_pos (nI_ge0 (by omega))] at m2
        exact hb w h2 (Or.inr ⟨c6, ht⟩) ⟨hw, _, _, _, m2⟩ (F.trans F2)
    have f0 : upd (upd (upd fr D (nI (lk tx ln p1))) (D + 1) 1) (D + 2) 1 D = nI (lk tx ln p1) := by rw [upd_n (by omega), upd_n (by omega), upd_s]
    have f1 : upd (upd (upd fr D (nI (lk tx ln p1))) (D + 1) 1) (D + 2) 1 (D + 1) = nI 1 := by rw [upd_n (by omega), upd_s]; rfl
    have f2 : upd (upd (upd fr D (nI (lk tx ln p1))) (D + 1) 1) (D + 2) 1 (D + 2) = nI 1 := by rw [upd_s]; rfl
    have f3 : ∀ j, ¬ (D ≤ j ∧ j < D + 4) → upd (upd (upd fr D (nI (lk tx ln p1))) (D + 1) 1) (D + 2) 1 j = fr j := fun j hj => by rw [upd_n (by omega), upd_n (by omega), upd_n (by omega)]
    generalize upd (upd (upd fr D (nI (lk tx ln p1))) (D + 1) 1) (D + 2) 1 = fr2 at *
    by_cases cd : 48 ≤ lk tx ln p2 ∧ lk tx ln p2 ≤ 57
    · rw [if_pos cd] at trm_d
      simp only [u_103_109, u_103_109n, u_103_110, u_103_113, u_103_116, u_103_119, u_103_119n, u_103_120, u_103_123, u_103_124, u_103_125, u_103_126, u_103_126n, u_103_127, pm_O_some, pm_w_nil, pm_w_i, pm_w_l, pm_w_r, pm_w_n, pm_c_n, pm_c_i, pm_c_l, pm_c_r, pm_c_u, Nat.reduceAdd, Nat.reduceLeDiff, true_and, Option.toList_some, Option.toList_none, List.cons_append, List.nil_append, m6.io, p_look m6, p_isDigit (lkk (p := p2) b9), one0, ite_not, if_pos cd, i10, if_false, m6.1.g15, xD1]
      refine p_number m6 (fun h7 v m7 hv F7 => ?_)
      have b67 := m7.2.2.2.2.2.1
      simp only [u_103_130, pm_O_some, pm_w_nil, pm_w_i, pm_w_l, pm_w_r, pm_w_n, pm_c_n, pm_c_i, pm_c_l, pm_c_r, pm_c_u, Nat.reduceAdd, Nat.reduceLeDiff, true_and, Option.toList_some, Option.toList_none, List.cons_append, List.nil_append, b67, st_i (t := 0) (ix_192 (show D + 1 < 192 by omega)) rfl, nI_clamp (show D + 1 < 2 ^ 31 by omega), ty_0]
      obtain ⟨m8, F8⟩ := m7.put10 (upd fr2 (D + 1) v)
      simp only [u_103_131, u_103_131n, u_103_132, pm_O_some, pm_w_nil, pm_w_i, pm_w_l, pm_w_r, pm_w_n, pm_c_n, pm_c_i, pm_c_l, pm_c_r, pm_c_u, Nat.reduceAdd, Nat.reduceLeDiff, true_and, Option.toList_some, Option.toList_none, List.cons_append, List.nil_append, m8.io]
      refine p_skip m8 (fun h9 m9 F9 => ?_)
      have G9 := ((G6.trans F7).trans F8).trans F9
      by_cases nk : nok3 tx ln p2
      · rw [if_pos nk] at m9 trm_d
        have hv2 := hv nk
        generalize hp3 : sk tx ln (de tx ln p2) = p3 at *
        have q3 := m9.2.2.2.2.2.2.1
        have r47 : (nI (lk tx ln p3) = 47) ↔ lk tx ln p3 = 47 := nI_eq (b := 47) (lkk b9) (by decide)
        by_cases c47 : lk tx ln p3 = 47
        · rw [if_pos c47] at trm_d
          have e47 : ¬ ¬ nI (lk tx ln p3) = 47 := fun z => z (r47.mpr c47)
          have hp3l : p3 < ln := by
            rcases Nat.lt_or_ge p3 ln with z | z
            · exact z
            · have : lk tx ln p3 = 0 := if_neg (by omega)
              omega
          have c9 := m9.1
          simp only [u_103_135, u_103_135n, u_103_136, u_103_139, u_103_142, u_103_142n, u_103_143, u_103_146, u_103_148, u_103_151, u_103_151n, u_103_152, u_103_152i, u_103_153, u_103_156, u_103_157, u_103_158, pm_O_some, pm_w_nil, pm_w_i, pm_w_l, pm_w_r, pm_w_n, pm_c_n, pm_c_i, pm_c_l, pm_c_r, pm_c_u, Nat.reduceAdd, Nat.reduceLeDiff, true_and, Option.toList_some, Option.toList_none, List.cons_append, List.nil_append, c9.g9, if_neg nn, m9.io, p_look m9, if_neg e47, c9.g8, nI_1, c9.p8]
          obtain ⟨c10, F10⟩ := c9.s8 (v := nI (p3 + 1))
          have m10 := m9.obj F10 c10 (p2 := p3 + 1) (by omega)
          simp only [u_103_161, u_103_161n, u_103_162, pm_O_some, pm_w_nil, pm_w_i, pm_w_l, pm_w_r, pm_w_n, pm_c_n, pm_c_i, pm_c_l, pm_c_r, pm_c_u, Nat.reduceAdd, Nat.reduceLeDiff, true_and, Option.toList_some, Option.toList_none, List.cons_append, List.nil_append, m10.io]
          refine p_skip m10 (fun h11 m11 F11 => ?_)
          generalize hp4 : sk tx ln (p3 + 1) = p4 at *
          have q4 := m11.2.2.2.2.2.2.1
          simp only [u_103_165, u_103_165n, u_103_166, u_103_169, u_103_170, u_103_171, u_103_172, u_103_172n, u_103_173, pm_O_some, pm_w_nil, pm_w_i, pm_w_l, pm_w_r, pm_w_n, pm_c_n, pm_c_i, pm_c_l, pm_c_r, pm_c_u, Nat.reduceAdd, Nat.reduceLeDiff, true_and, Option.toList_some, Option.toList_none, List.cons_append, List.nil_append, m11.1.g15, xD2, m11.io]
          refine p_number m11 (fun h12 v2 m12 hv3 F12 => ?_)
          have b612 := m12.2.2.2.2.2.1
          simp only [u_103_176, pm_O_some, pm_w_nil, pm_w_i, pm_w_l, pm_w_r, pm_w_n, pm_c_n, pm_c_i, pm_c_l, pm_c_r, pm_c_u, Nat.reduceAdd, Nat.reduceLeDiff, true_and, Option.toList_some, Option.toList_none, List.cons_append, List.nil_append, b612, st_i (t := 0) (ix_192 (show D + 2 < 192 by omega)) rfl, nI_clamp (show D + 2 < 2 ^ 31 by omega), ty_0]
          obtain ⟨m13, F13⟩ := m12.put10 (upd (upd fr2 (D + 1) v) (D + 2) v2)
          simp only [u_103_177, u_103_177n, u_103_178, pm_O_some, pm_w_nil, pm_w_i, pm_w_l, pm_w_r, pm_w_n, pm_c_n, pm_c_i, pm_c_l, pm_c_r, pm_c_u, Nat.reduceAdd, Nat.reduceLeDiff, true_and, Option.toList_some, Option.toList_none, List.cons_append, List.nil_append, m13.io]
          refine p_skip m13 (fun h14 m14 F14 => ?_)
          have G14 := ((((G9.trans F10.zo).trans F11).trans F12).trans F13).trans F14
          by_cases nk2 : nok3 tx ln p4
          · rw [if_pos nk2] at m14 trm_d
            refine okT h14 _ _ _ _ m14 ?_ ?_ ?_ (fun j hj => ?_) G14 trm_d
            · rw [upd_n (by omega), upd_n (by omega)]; exact f0
            · rw [upd_n (by omega), upd_s]; exact hv2
            · rw [upd_s]; exact hv3 nk2
            · rw [upd_n (by omega), upd_n (by omega)]; exact f3 j hj
          · rw [if_neg nk2, if_neg nn] at m14
            rw [if_neg nk2] at trm_d
            exact badT h14 _ p4 _ m14 (by omega) G14 trm_d
        · rw [if_neg c47] at trm_d
          have e47 : ¬ nI (lk tx ln p3) = 47 := mt r47.mp c47
          simp only [u_103_135, u_103_135n, u_103_136, u_103_139, u_103_142, u_103_142n, u_103_143, u_103_146, u_103_148, pm_O_some, pm_w_nil, pm_w_i, pm_w_l, pm_w_r, pm_w_n, pm_c_n, pm_c_i, pm_c_l, pm_c_r, pm_c_u, Nat.reduceAdd, Nat.reduceLeDiff, true_and, Option.toList_some, Option.toList_none, List.cons_append, List.nil_append, m9.1.g9, if_neg nn, m9.io, p_look m9, if_pos e47]
          refine okT h9 _ _ _ _ m9 ?_ ?_ ?_ (fun j hj => ?_) G9 trm_d
          · rw [upd_n (by omega)]; exact f0
          · rw [upd_s]; exact hv2
          · rw [upd_n (by omega)]; exact f2
          · rw [upd_n (by omega)]; exact f3 j hj
      · rw [if_neg nk, if_neg nn] at m9
        rw [if_neg nk] at trm_d
        simp only [u_103_135, u_103_135n, u_103_136, u_103_139, pm_O_some, pm_w_nil, pm_w_i, pm_w_l, pm_w_r, pm_w_n, pm_c_n, pm_c_i, pm_c_l, pm_c_r, pm_c_u, Nat.reduceAdd, Nat.reduceLeDiff, true_and, Option.toList_some, Option.toList_none, List.cons_append, List.nil_append, m9.1.g9, if_pos (nI_ge0 (show p2 < 2 ^ 31 by omega))]
        exact badT h9 _ p2 _ m9 (by omega) G9 trm_d
    · rw [if_neg cd] at trm_d
      simp only [u_103_109, u_103_109n, u_103_110, u_103_113, u_103_116, pm_O_some, pm_w_nil, pm_w_i, pm_w_l, pm_w_r, pm_w_n, pm_c_n, pm_c_i, pm_c_l, pm_c_r, pm_c_u, Nat.reduceAdd, Nat.reduceLeDiff, true_and, Option.toList_some, Option.toList_none, List.cons_append, List.nil_append, m6.io, p_look m6, p_isDigit (lkk (p := p2) b9), one0, ite_not, if_neg cd]
      exact okT h6 _ _ _ _ m6 f0 f1 f2 f3 G6 trm_d
  by_cases c1 : lk tx ln p1 = 43
  · simp only [u_103_9, u_103_10, u_103_12, pm_O_some, pm_w_nil, pm_w_i, pm_w_l, pm_w_r, pm_w_n, pm_c_n, pm_c_i, pm_c_l, pm_c_r, pm_c_u, Nat.reduceAdd, Nat.reduceLeDiff, true_and, Option.toList_some, Option.toList_none, List.cons_append, List.nil_append, if_pos (r43.mpr c1)]
    exact good (Or.inl c1)
  · by_cases c2 : lk tx ln p1 = 45
    · simp only [u_103_9, u_103_10, u_103_12, u_103_15, u_103_16, u_103_18, pm_O_some, pm_w_nil, pm_w_i, pm_w_l, pm_w_r, pm_w_n, pm_c_n, pm_c_i, pm_c_l, pm_c_r, pm_c_u, Nat.reduceAdd, Nat.reduceLeDiff, true_and, Option.toList_some, Option.toList_none, List.cons_append, List.nil_append, if_neg (mt r43.mp c1), if_pos (r45.mpr c2)]
      exact good (Or.inr (Or.inl c2))
    · by_cases c3 : lk tx ln p1 = 42
      · have e3 : ¬ ¬ nI (lk tx ln p1) = 42 := fun z => z (r42.mpr c3)
        simp only [u_103_9, u_103_10, u_103_12, u_103_15, u_103_16, u_103_18, u_103_21, u_103_22, u_103_24, pm_O_some, pm_w_nil, pm_w_i, pm_w_l, pm_w_r, pm_w_n, pm_c_n, pm_c_i, pm_c_l, pm_c_r, pm_c_u, Nat.reduceAdd, Nat.reduceLeDiff, true_and, Option.toList_some, Option.toList_none, List.cons_append, List.nil_append, if_neg (mt r43.mp c1), if_neg (mt r45.mp c2), if_neg e3]
        exact good (Or.inr (Or.inr c3))
      · simp only [u_103_9, u_103_10, u_103_12, u_103_15, u_103_16, u_103_18, u_103_21, u_103_22, u_103_24, pm_O_some, pm_w_nil, pm_w_i, pm_w_l, pm_w_r, pm_w_n, pm_c_n, pm_c_i, pm_c_l, pm_c_r, pm_c_u, Nat.reduceAdd, Nat.reduceLeDiff, true_and, Option.toList_some, Option.toList_none, List.cons_append, List.nil_append, if_neg (mt r43.mp c1), if_neg (mt r45.mp c2), if_pos (mt r42.mp c3)]
        exact bad41 (fun _ => if_neg (by rintro (z | z | z) <;> contradiction))
end PTT

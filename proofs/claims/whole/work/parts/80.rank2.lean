/-! addDifferences, rank, locked. -/
section RB
variable {B : Nat} {X : pm_X} {h h' h2 : pm_H} {Q : Option Value → pm_H → Prop} {e lo hi n ln nr nd nl i a k j ax : Nat} {bs : Nat → Bg} {tx sz lm ll : Nat → Nat} {tm : Nat → Nat → Tm} {dy : Nat → Int} {jk : Option (Nat × Nat)} {g : Bg} {S S' : Int → Int → Prop} {u v : Int}
theorem DfV.congr (n1 : DfV B h S) (e : ∀ a b, S a b ↔ S' a b) : DfV B h S' := by
  have : S = S' := by
    funext a b
    exact propext (e a b)
  rw [← this]
  exact n1
theorem s_heldOn (n1 : BeG B h k g) (n2 : bgok g) (hax : ax < 2) : PW B X 68 0 [some (.ref k), some (.int (nI ax))] [] h Q ↔ Q (some (.int (if ax = 0 then g.2.2.1 else g.2.2.2.1))) h := by
  have b0 := n1.1
  obtain rfl | rfl : ax = 0 ∨ ax = 1 := by omega
  · have e1 : nI 0 = 0 := rfl
    rcases n2.2.2.1 with z | z
    · simp only [u_68_0, u_68_1, u_68_4, u_68_4n, u_68_5, u_68_8, u_68_11, u_68_11n, u_68_12, u_68_15, u_68_15_0, u_68_15_1, pm_O_some, pm_w_nil, pm_w_i, pm_w_l, pm_w_r, pm_w_n, pm_c_n, pm_c_i, pm_c_l, pm_c_r, pm_c_u, Nat.reduceAdd, Nat.reduceLeDiff, true_and, Option.toList_some, Option.toList_none, List.cons_append, List.nil_append, e1, not_true, if_false, b0, gf_9_2, z, if_true]
    · simp only [u_68_0, u_68_1, u_68_4, u_68_4n, u_68_5, u_68_8, u_68_11, u_68_11n, u_68_12, u_68_15, u_68_15_0, u_68_15_1, pm_O_some, pm_w_nil, pm_w_i, pm_w_l, pm_w_r, pm_w_n, pm_c_n, pm_c_i, pm_c_l, pm_c_r, pm_c_u, Nat.reduceAdd, Nat.reduceLeDiff, true_and, Option.toList_some, Option.toList_none, List.cons_append, List.nil_append, e1, not_true, if_false, b0, gf_9_2, z, if_true]
  · have e1 : ¬ nI 1 = 0 := by decide
    have e2 : ¬ 1 = 0 := by decide
    rcases n2.2.2.2.1 with z | z
    · simp only [u_68_0, u_68_1, u_68_4, u_68_4n, u_68_5, u_68_8, u_68_11, u_68_11n, u_68_12, u_68_15, u_68_15_0, u_68_15_1, pm_O_some, pm_w_nil, pm_w_i, pm_w_l, pm_w_r, pm_w_n, pm_c_n, pm_c_i, pm_c_l, pm_c_r, pm_c_u, Nat.reduceAdd, Nat.reduceLeDiff, true_and, Option.toList_some, Option.toList_none, List.cons_append, List.nil_append, e1, not_false_eq_true, if_true, b0, gf_9_3, z, if_neg e2]
    · simp only [u_68_0, u_68_1, u_68_4, u_68_4n, u_68_5, u_68_8, u_68_11, u_68_11n, u_68_12, u_68_15, u_68_15_0, u_68_15_1, pm_O_some, pm_w_nil, pm_w_i, pm_w_l, pm_w_r, pm_w_n, pm_c_n, pm_c_i, pm_c_l, pm_c_r, pm_c_u, Nat.reduceAdd, Nat.reduceLeDiff, true_and, Option.toList_some, Option.toList_none, List.cons_append, List.nil_append, e1, not_false_eq_true, if_true, b0, gf_9_3, z, if_neg e2]
theorem hd_iff : hd bs ax i ↔ ¬ (if ax = 0 then (bs i).2.2.1 else (bs i).2.2.2.1) = 0 := by
  unfold hd
  split <;> exact Iff.rfl
theorem i_neg {x : Int32} (h : -2 ^ 31 < x.toInt) : (-x).toInt = -x.toInt := by
  have e0 : (0 : Int32).toInt = 0 := rfl
  have e1 : -x = 0 - x := by simp
  have h2 := x.toInt_lt
  rw [e1, i_sub (by rw [e0]; omega) (by rw [e0]; omega), e0]
  omega
theorem c_addD (n1 : CC B h n bs ln tx nr sz tm nd dy nl lm ll jk) (n2 : DfV B h S) (hax : ax < 2)
    (ht : ∀ f h', f < n → hd bs ax f → CC B h' n bs ln tx nr sz tm nd dy nl lm ll jk → DfV B h' (fun a b => S a b ∨ ∃ i, i < n ∧ hd bs ax i ∧ a = pt bs ax i f ∧ b = pg bs ax i f) → Kp B h h' → Q (some (.int 1)) h')
    (hf : (∀ i, i < n → ¬ hd bs ax i) → ∀ h', CC B h' n bs ln tx nr sz tm nd dy nl lm ll jk → DfV B h' S → Kp B h h' → Q (some (.int 0)) h') :
    PW B X 67 0 [some (.ref B), some (.int (nI ax)), none, none, none, none, none] [] h Q := by
  have hn := n1.1.cf.1
  have body : ∀ f k hc v5 v6, k < n → f < n → CC B hc n bs ln tx nr sz tm nd dy nl lm ll jk → DfV B hc (fun a b => S a b ∨ ∃ i, i < k ∧ hd bs ax i ∧ a = pt bs ax i f ∧ b = pg bs ax i f) → hd bs ax k → (∀ hd' v5 v6, CC B hd' n bs ln tx nr sz tm nd dy nl lm ll jk → DfV B hd' (fun a b => S a b ∨ ∃ i, i < k + 1 ∧ hd bs ax i ∧ a = pt bs ax i f ∧ b = pg bs ax i f) → Frm B hc hd' (B + 2) (B + 3) → PW B X 67 98 [some (.ref B), some (.int (nI ax)), some (.ref (B + 95 + 8 * f)), some (.int (nI k)), some (.ref (B + 95 + 8 * k)), v5, v6] [] hd' Q) →
      PW B X 67 40 [some (.ref B), some (.int (nI ax)), some (.ref (B + 95 + 8 * f)), some (.int (nI k)), some (.ref (B + 95 + 8 * k)), v5, v6] [] hc Q := by
    intro f k hc v5 v6 hk hf2 m1 m2 m3 cont
    obtain ⟨rs, rs2, lw, jh, jm, ra, a1⟩ := m1.ob
    obtain ⟨⟨b0, b1⟩, b2⟩ := m1.bev hk
    obtain ⟨⟨c0, c1⟩, c2⟩ := m1.bev hf2
    have q1 := b2.1
    have q2 := b2.2.1
    have q3 := c2.1
    have q4 := c2.2.1
    have d1 : ((bs k).1 - (bs f).1).toInt = (bs k).1.toInt - (bs f).1.toInt := i_sub (by omega) (by omega)
    have d2 : ((bs k).2.1 - (bs f).2.1).toInt = (bs k).2.1.toInt - (bs f).2.1.toInt := i_sub (by omega) (by omega)
    have d3 : (-((bs k).2.1 - (bs f).2.1)).toInt = -((bs k).2.1.toInt - (bs f).2.1.toInt) := by rw [i_neg (by omega), d2]
    have step : ∀ hd', DfV B hd' (fun a b => (S a b ∨ ∃ i, i < k ∧ hd bs ax i ∧ a = pt bs ax i f ∧ b = pg bs ax i f) ∨ (a = pt bs ax k f ∧ b = pg bs ax k f)) → DfV B hd' (fun a b => S a b ∨ ∃ i, i < k + 1 ∧ hd bs ax i ∧ a = pt bs ax i f ∧ b = pg bs ax i f) := by
      intro hd' w
      refine w.congr (fun a b => ⟨?_, ?_⟩)
      · rintro ((z | ⟨i, z1, z2⟩) | z)
        · exact Or.inl z
        · exact Or.inr ⟨i, by omega, z2⟩
        · exact Or.inr ⟨k, by omega, m3, z⟩
      · rintro (z | ⟨i, z1, z2, z3⟩)
        · exact Or.inl (Or.inl z)
        · by_cases hik : i = k
          · subst hik
            exact Or.inr z3
          · exact Or.inl (Or.inr ⟨i, by omega, z2, z3⟩)
    have CW' : ∀ hd', Frm B hc hd' (B + 2) (B + 3) → ∀ {S2 : Int → Int → Prop}, DfV B hd' S2 → CC B hd' n bs ln tx nr sz tm nd dy nl lm ll jk := by
      intro hd' F S2 w
      refine ⟨m1.1.frm F (by omega), ?_⟩
      obtain ⟨_, ⟨lq, lc, gq, gc, h2⟩, ⟨s, U, L, h3⟩, ⟨fb, h4, h5⟩, ⟨s1, U1, L1, h6⟩, ⟨s2, U2, L2, h7⟩, ⟨s3, U3, L3, h8⟩⟩ := m1.2
      obtain ⟨t, g, rb, rt, p1, p2⟩ := w
      exact ⟨⟨_, _, _, _, p1⟩, ⟨lq, lc, gq, gc, h2.frm F (by omega)⟩, ⟨s, U, L, h3.frm F (by omega)⟩, ⟨fb, by rw [F.2.2 _ (by omega)]; exact h4, h5⟩, ⟨s1, U1, L1, h6.frm F (by omega)⟩, ⟨s2, U2, L2, h7.frm F (by omega)⟩, ⟨s3, U3, L3, h8.frm F (by omega)⟩⟩
    obtain rfl | rfl : ax = 0 ∨ ax = 1 := by omega
    · have e1 : nI 0 = 0 := rfl
      simp only [u_67_40, u_67_40n, u_67_42, u_67_45, u_67_45n, u_67_46, u_67_49, u_67_50, u_67_52, u_67_52n, u_67_54, u_67_57, u_67_57n, u_67_58, u_67_61, u_67_62, u_67_64, u_67_64n, u_67_65, u_67_68, pm_O_some, pm_w_nil, pm_w_i, pm_w_l, pm_w_r, pm_w_n, pm_c_n, pm_c_i, pm_c_l, pm_c_r, pm_c_u, Nat.reduceAdd, Nat.reduceLeDiff, true_and, Option.toList_some, Option.toList_none, List.cons_append, List.nil_append, a1, gf_0_2, b0, c0, gf_9_0, gf_9_1, e1]
      simp only [u_67_69, u_67_72, u_67_74, u_67_75, u_67_76, u_67_79, u_67_81, u_67_82, u_67_83, u_67_86, u_67_88, u_67_89, u_67_92, u_67_94, u_67_95, pm_O_some, pm_w_nil, pm_w_i, pm_w_l, pm_w_r, pm_w_n, pm_c_n, pm_c_i, pm_c_l, pm_c_r, pm_c_u, Nat.reduceAdd, Nat.reduceLeDiff, true_and, Option.toList_some, Option.toList_none, List.cons_append, List.nil_append, i00, not_true, if_false, iL, d1, d2, d3, m2.io]
      refine c_dadd (u := -((bs k).2.1.toInt - (bs f).2.1.toInt)) (v := (bs k).1.toInt - (bs f).1.toInt) m2 (by omega) (by omega) (fun hd' w1 w2 => ?_)
      exact cont hd' _ _ (CW' hd' w2 w1) (step hd' w1) w2
    · have e1 : nI 1 = 1 := rfl
      simp only [u_67_40, u_67_40n, u_67_42, u_67_45, u_67_45n, u_67_46, u_67_49, u_67_50, u_67_52, u_67_52n, u_67_54, u_67_57, u_67_57n, u_67_58, u_67_61, u_67_62, u_67_64, u_67_64n, u_67_65, u_67_68, pm_O_some, pm_w_nil, pm_w_i, pm_w_l, pm_w_r, pm_w_n, pm_c_n, pm_c_i, pm_c_l, pm_c_r, pm_c_u, Nat.reduceAdd, Nat.reduceLeDiff, true_and, Option.toList_some, Option.toList_none, List.cons_append, List.nil_append, a1, gf_0_2, b0, c0, gf_9_0, gf_9_1, e1]
      simp only [u_67_69, u_67_72, u_67_74, u_67_75, u_67_76, u_67_79, u_67_81, u_67_82, u_67_83, u_67_86, u_67_88, u_67_89, u_67_92, u_67_94, u_67_95, pm_O_some, pm_w_nil, pm_w_i, pm_w_l, pm_w_r, pm_w_n, pm_c_n, pm_c_i, pm_c_l, pm_c_r, pm_c_u, Nat.reduceAdd, Nat.reduceLeDiff, true_and, Option.toList_some, Option.toList_none, List.cons_append, List.nil_append, i10, not_false_eq_true, if_true, iL, d1, d2, m2.io]
      refine c_dadd (u := (bs k).1.toInt - (bs f).1.toInt) (v := (bs k).2.1.toInt - (bs f).2.1.toInt) m2 (by omega) (by omega) (fun hd' w1 w2 => ?_)
      exact cont hd' _ _ (CW' hd' w2 w1) (step hd' w1) w2
  have loopB : ∀ m f k hc v4 v5 v6, k + m = n → f < n → hd bs ax f → CC B hc n bs ln tx nr sz tm nd dy nl lm ll jk → DfV B hc (fun a b => S a b ∨ ∃ i, i < k ∧ hd bs ax i ∧ a = pt bs ax i f ∧ b = pg bs ax i f) → Kp B h hc → PW B X 67 4 [some (.ref B), some (.int (nI ax)), some (.ref (B + 95 + 8 * f)), some (.int (nI k)), v4, v5, v6] [] hc Q := by
    intro m
    induction m with
    | zero =>
      intro f k hc v4 v5 v6 hk hf2 hdf m1 m2 m3
      obtain rfl : k = n := by omega
      obtain ⟨rs, rs2, lw, jh, jm, ra, a1⟩ := m1.ob
      have e1 : nI k ≤ nI k := nI_le (Nat.le_refl _) (by omega)
      simp only [u_67_4, u_67_5, u_67_5n, u_67_6, u_67_9, u_67_104, u_67_104n, u_67_105, u_67_105n, u_67_108, u_67_109, u_67_112, u_67_113, u_67_113_0, u_67_113_1, pm_O_some, pm_w_nil, pm_w_i, pm_w_l, pm_w_r, pm_w_n, pm_c_n, pm_c_i, pm_c_l, pm_c_r, pm_c_u, Nat.reduceAdd, Nat.reduceLeDiff, true_and, Option.toList_some, Option.toList_none, List.cons_append, List.nil_append, a1, gf_0_1, if_pos e1]
      exact ht f hc hf2 hdf m1 m2 m3
    | succ m ih =>
      intro f k hc v4 v5 v6 hk hf2 hdf m1 m2 m3
      have hkn : k < n := by omega
      obtain ⟨rs, rs2, lw, jh, jm, ra, a1⟩ := m1.ob
      obtain ⟨b0, b1⟩ := m1.bev hkn
      have e1 : ¬ nI n ≤ nI k := nI_ge hkn (by omega)
      rw [u_67_4]
      simp only [u_67_5, u_67_5n, u_67_6, u_67_9, u_67_12, u_67_12n, u_67_13, u_67_14, u_67_17, u_67_17n, u_67_19, u_67_19n, u_67_21, u_67_21n, u_67_24, u_67_24n, u_67_26, u_67_27, pm_O_some, pm_w_nil, pm_w_i, pm_w_l, pm_w_r, pm_w_n, pm_c_n, pm_c_i, pm_c_l, pm_c_r, pm_c_u, Nat.reduceAdd, Nat.reduceLeDiff, true_and, Option.toList_some, Option.toList_none, List.cons_append, List.nil_append, a1, gf_0_1, if_neg e1, m1.1.cf.io, s_find_t m1.1.cf hkn, pm_io_of b0.1, s_heldOn b0 b1 hax]
      by_cases c1 : hd bs ax k
      · simp only [u_67_30, u_67_33, u_67_33n, u_67_34, u_67_34n, pm_O_some, pm_w_nil, pm_w_i, pm_w_l, pm_w_r, pm_w_n, pm_c_n, pm_c_i, pm_c_l, pm_c_r, pm_c_u, Nat.reduceAdd, Nat.reduceLeDiff, true_and, Option.toList_some, Option.toList_none, List.cons_append, List.nil_append, if_neg (hd_iff.mp c1)]
        refine body f k hc _ _ hkn hf2 m1 m2 c1 (fun hd' v5 v6 w1 w2 w3 => ?_)
        simp only [u_67_98, u_67_101, pm_O_some, pm_w_nil, pm_w_i, pm_w_l, pm_w_r, pm_w_n, pm_c_n, pm_c_i, pm_c_l, pm_c_r, pm_c_u, Nat.reduceAdd, Nat.reduceLeDiff, true_and, Option.toList_some, Option.toList_none, List.cons_append, List.nil_append, nI_1]
        exact ih f (k + 1) hd' _ _ _ (by omega) hf2 hdf w1 w2 (m3.trans (Kp.of w3 (by omega)))
      · have c2 := Classical.not_not.mp (mt hd_iff.mpr c1)
        simp only [u_67_30, u_67_98, u_67_101, pm_O_some, pm_w_nil, pm_w_i, pm_w_l, pm_w_r, pm_w_n, pm_c_n, pm_c_i, pm_c_l, pm_c_r, pm_c_u, Nat.reduceAdd, Nat.reduceLeDiff, true_and, Option.toList_some, Option.toList_none, List.cons_append, List.nil_append, if_pos c2, nI_1]
        refine ih f (k + 1) hc _ _ _ (by omega) hf2 hdf m1 (m2.congr (fun a b => ⟨?_, ?_⟩)) m3
        · rintro (z | ⟨i, z1, z2⟩)
          · exact Or.inl z
          · exact Or.inr ⟨i, by omega, z2⟩
        · rintro (z | ⟨i, z1, z2, z3⟩)
          · exact Or.inl z
          · by_cases hik : i = k
            · subst hik
              exact absurd z2 c1
            · exact Or.inr ⟨i, by omega, z2, z3⟩
  have loopA : ∀ m k hc v4 v5 v6, k + m = n → (∀ i, i < k → ¬ hd bs ax i) → CC B hc n bs ln tx nr sz tm nd dy nl lm ll jk → DfV B hc S → Kp B h hc → PW B X 67 4 [some (.ref B), some (.int (nI ax)), some .null, some (.int (nI k)), v4, v5, v6] [] hc Q := by
    intro m
    induction m with
    | zero =>
      intro k hc v4 v5 v6 hk hdf m1 m2 m3
      obtain rfl : k = n := by omega
      obtain ⟨rs, rs2, lw, jh, jm, ra, a1⟩ := m1.ob
      have e1 : nI k ≤ nI k := nI_le (Nat.le_refl _) (by omega)
      simp only [u_67_4, u_67_5, u_67_5n, u_67_6, u_67_9, u_67_104, u_67_104n, u_67_105, u_67_105n, u_67_108, u_67_109, u_67_112, u_67_113, u_67_113_0, u_67_113_1, pm_O_some, pm_w_nil, pm_w_i, pm_w_l, pm_w_r, pm_w_n, pm_c_n, pm_c_i, pm_c_l, pm_c_r, pm_c_u, Nat.reduceAdd, Nat.reduceLeDiff, true_and, Option.toList_some, Option.toList_none, List.cons_append, List.nil_append, a1, gf_0_1, if_pos e1]
      exact hf hdf hc m1 m2 m3
    | succ m ih =>
      intro k hc v4 v5 v6 hk hdf m1 m2 m3
      have hkn : k < n := by omega
      obtain ⟨rs, rs2, lw, jh, jm, ra, a1⟩ := m1.ob
      obtain ⟨b0, b1⟩ := m1.bev hkn
      have e1 : ¬ nI n ≤ nI k := nI_ge hkn (by omega)
      rw [u_67_4]
      simp only [u_67_5, u_67_5n, u_67_6, u_67_9, u_67_12, u_67_12n, u_67_13, u_67_14, u_67_17, u_67_17n, u_67_19, u_67_19n, u_67_21, u_67_21n, u_67_24, u_67_24n, u_67_26, u_67_27, pm_O_some, pm_w_nil, pm_w_i, pm_w_l, pm_w_r, pm_w_n, pm_c_n, pm_c_i, pm_c_l, pm_c_r, pm_c_u, Nat.reduceAdd, Nat.reduceLeDiff, true_and, Option.toList_some, Option.toList_none, List.cons_append, List.nil_append, a1, gf_0_1, if_neg e1, m1.1.cf.io, s_find_t m1.1.cf hkn, pm_io_of b0.1, s_heldOn b0 b1 hax]
      by_cases c1 : hd bs ax k
      · simp only [u_67_30, u_67_33, u_67_33n, u_67_34, u_67_34n, u_67_37, u_67_37n, u_67_39, u_67_39n, pm_O_some, pm_w_nil, pm_w_i, pm_w_l, pm_w_r, pm_w_n, pm_c_n, pm_c_i, pm_c_l, pm_c_r, pm_c_u, Nat.reduceAdd, Nat.reduceLeDiff, true_and, Option.toList_some, Option.toList_none, List.cons_append, List.nil_append, if_neg (hd_iff.mp c1)]
        refine body k k hc _ _ hkn hkn m1 (m2.congr (fun a b => ⟨fun z => Or.inl z, ?_⟩)) c1 (fun hd' v5 v6 w1 w2 w3 => ?_)
        · rintro (z | ⟨i, z1, z2, z3⟩)
          · exact z
          · exact absurd z2 (hdf i z1)
        simp only [u_67_98, u_67_101, pm_O_some, pm_w_nil, pm_w_i, pm_w_l, pm_w_r, pm_w_n, pm_c_n, pm_c_i, pm_c_l, pm_c_r, pm_c_u, Nat.reduceAdd, Nat.reduceLeDiff, true_and, Option.toList_some, Option.toList_none, List.cons_append, List.nil_append, nI_1]
        exact loopB m k (k + 1) hd' _ _ _ (by omega) hkn c1 w1 w2 (m3.trans (Kp.of w3 (by omega)))
      · have c2 := Classical.not_not.mp (mt hd_iff.mpr c1)
        simp only [u_67_30, u_67_98, u_67_101, pm_O_some, pm_w_nil, pm_w_i, pm_w_l, pm_w_r, pm_w_n, pm_c_n, pm_c_i, pm_c_l, pm_c_r, pm_c_u, Nat.reduceAdd, Nat.reduceLeDiff, true_and, Option.toList_some, Option.toList_none, List.cons_append, List.nil_append, if_pos c2, nI_1]
        refine ih (k + 1) hc _ _ _ (by omega) (fun i hi => ?_) m1 m2 m3
        by_cases hik : i = k
        · rw [hik]
          exact c1
        · exact hdf i (by omega)
  simp only [u_67_0, u_67_1, u_67_1n, u_67_2, u_67_3, pm_O_some, pm_w_nil, pm_w_i, pm_w_l, pm_w_r, pm_w_n, pm_c_n, pm_c_i, pm_c_l, pm_c_r, pm_c_u, Nat.reduceAdd, Nat.reduceLeDiff, true_and, Option.toList_some, Option.toList_none, List.cons_append, List.nil_append]
  exact loopA n 0 h _ _ _ (by omega) (fun i hi => by omega) n1 n2 Kp.rfl'
end RB

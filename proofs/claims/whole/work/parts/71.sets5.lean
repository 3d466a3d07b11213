/-! count, bearing. -/
theorem ix_24 {k : Nat} (h : k < 24) : pm_ix (nI k) 24 = true := pm_ix_of h (by decide)
section SE5
variable {B : Nat} {X : pm_X} {h h' h2 : pm_H} {Q : Option Value → pm_H → Prop} {e lo hi n ln nr nd nl i a : Nat} {bs : Nat → Bg} {tx sz lm ll : Nat → Nat} {tm : Nat → Nat → Tm} {dy : Nat → Int} {jk : Option (Nat × Nat)} {g : Bg} {b x y z ax w st : Int32}
theorem c_heldAll (n1 : CC B h n bs ln tx nr sz tm nd dy nl lm ll jk) : PW B X 91 0 [some (.ref B), none, none, none] [] h Q ↔ Q (some (.int (nI (hcn bs n)))) h := by
  have cf := n1.1.cf
  have n0 := n1
  obtain ⟨⟨rs, rs2, lw, jh, jm, ra, a1, a2, a3, a4, a5, a6, a7, a8, a9⟩, n2⟩ := n1
  have hn := a3.1
  have loop : ∀ m k v3, k + m = n → (PW B X 91 4 [some (.ref B), some (.int (nI (hcn bs k))), some (.int (nI k)), v3] [] h Q ↔ Q (some (.int (nI (hcn bs n)))) h) := by
    intro m
    induction m with
    | zero =>
      intro k v3 hk
      obtain rfl : k = n := by omega
      have e1 : nI k ≤ nI k := nI_le (Nat.le_refl _) (by omega)
      simp only [u_91_4, u_91_5, u_91_5n, u_91_6, u_91_9, u_91_56, u_91_57, pm_O_some, pm_w_nil, pm_w_i, pm_w_l, pm_w_r, pm_w_n, pm_c_n, pm_c_i, pm_c_l, pm_c_r, pm_c_u, Nat.reduceAdd, Nat.reduceLeDiff, true_and, Option.toList_some, Option.toList_none, List.cons_append, List.nil_append, a1, gf_0_1, if_pos e1]
    | succ m ih =>
      intro k v3 hk
      have hkn : k < n := by omega
      have e1 : ¬ nI n ≤ nI k := nI_ge hkn (by omega)
      obtain ⟨⟨b0, b1⟩, b2⟩ := n0.bev hkn
      rw [u_91_4]
      simp only [u_91_5, u_91_5n, u_91_6, u_91_9, u_91_12, u_91_12n, u_91_13, u_91_14, u_91_17, u_91_17n, u_91_18, u_91_18n, u_91_19, u_91_19n, u_91_22, u_91_23, u_91_23n, u_91_24, pm_O_some, pm_w_nil, pm_w_i, pm_w_l, pm_w_r, pm_w_n, pm_c_n, pm_c_i, pm_c_l, pm_c_r, pm_c_u, Nat.reduceAdd, Nat.reduceLeDiff, true_and, Option.toList_some, Option.toList_none, List.cons_append, List.nil_append, a1, gf_0_1, if_neg e1, cf.io, s_find_t cf hkn, b0, gf_9_2]
      have key : ∀ v : Nat, v = hcn bs (k + 1) → (PW B X 91 50 [some (.ref B), some (.int (nI v)), some (.int (nI k)), some (.ref (B + 95 + 8 * k))] [] h Q ↔ Q (some (.int (nI (hcn bs n)))) h) := by
        intro v hv
        subst hv
        simp only [u_91_50, u_91_53, pm_O_some, pm_w_nil, pm_w_i, pm_w_l, pm_w_r, pm_w_n, pm_c_n, pm_c_i, pm_c_l, pm_c_r, pm_c_u, Nat.reduceAdd, Nat.reduceLeDiff, true_and, Option.toList_some, Option.toList_none, List.cons_append, List.nil_append, nI_1]
        exact ih (k + 1) _ (by omega)
      have q0 : nI (hcn bs k) + (0 + 0) = nI (hcn bs k + (0 + 0)) := by simp
      have q1 : nI (hcn bs k) + (1 + 0) = nI (hcn bs k + (1 + 0)) := nI_add _ 1
      have q2 : nI (hcn bs k) + (0 + 1) = nI (hcn bs k + (0 + 1)) := nI_add _ 1
      have q3 : nI (hcn bs k) + (1 + 1) = nI (hcn bs k + (1 + 1)) := nI_add _ 2
      by_cases c1 : (bs k).2.2.1 = 0
      · simp only [u_91_27, u_91_30, u_91_31, u_91_34, u_91_35, u_91_35n, u_91_36, pm_O_some, pm_w_nil, pm_w_i, pm_w_l, pm_w_r, pm_w_n, pm_c_n, pm_c_i, pm_c_l, pm_c_r, pm_c_u, Nat.reduceAdd, Nat.reduceLeDiff, true_and, Option.toList_some, Option.toList_none, List.cons_append, List.nil_append, if_pos c1, b0, gf_9_3]
        by_cases c2 : (bs k).2.2.2.1 = 0
        · simp only [u_91_39, u_91_42, u_91_43, u_91_46, u_91_47, u_91_48, u_91_49, pm_O_some, pm_w_nil, pm_w_i, pm_w_l, pm_w_r, pm_w_n, pm_c_n, pm_c_i, pm_c_l, pm_c_r, pm_c_u, Nat.reduceAdd, Nat.reduceLeDiff, true_and, Option.toList_some, Option.toList_none, List.cons_append, List.nil_append, if_pos c2, q0]
          exact key _ (by rw [hcn, if_pos c1, if_pos c2])
        · simp only [u_91_39, u_91_42, u_91_43, u_91_46, u_91_47, u_91_48, u_91_49, pm_O_some, pm_w_nil, pm_w_i, pm_w_l, pm_w_r, pm_w_n, pm_c_n, pm_c_i, pm_c_l, pm_c_r, pm_c_u, Nat.reduceAdd, Nat.reduceLeDiff, true_and, Option.toList_some, Option.toList_none, List.cons_append, List.nil_append, if_neg c2, q2]
          exact key _ (by rw [hcn, if_pos c1, if_neg c2])
      · simp only [u_91_27, u_91_30, u_91_31, u_91_34, u_91_35, u_91_35n, u_91_36, pm_O_some, pm_w_nil, pm_w_i, pm_w_l, pm_w_r, pm_w_n, pm_c_n, pm_c_i, pm_c_l, pm_c_r, pm_c_u, Nat.reduceAdd, Nat.reduceLeDiff, true_and, Option.toList_some, Option.toList_none, List.cons_append, List.nil_append, if_neg c1, b0, gf_9_3]
        by_cases c2 : (bs k).2.2.2.1 = 0
        · simp only [u_91_39, u_91_42, u_91_43, u_91_46, u_91_47, u_91_48, u_91_49, pm_O_some, pm_w_nil, pm_w_i, pm_w_l, pm_w_r, pm_w_n, pm_c_n, pm_c_i, pm_c_l, pm_c_r, pm_c_u, Nat.reduceAdd, Nat.reduceLeDiff, true_and, Option.toList_some, Option.toList_none, List.cons_append, List.nil_append, if_pos c2, q1]
          exact key _ (by rw [hcn, if_neg c1, if_pos c2])
        · simp only [u_91_39, u_91_42, u_91_43, u_91_46, u_91_47, u_91_48, u_91_49, pm_O_some, pm_w_nil, pm_w_i, pm_w_l, pm_w_r, pm_w_n, pm_c_n, pm_c_i, pm_c_l, pm_c_r, pm_c_u, Nat.reduceAdd, Nat.reduceLeDiff, true_and, Option.toList_some, Option.toList_none, List.cons_append, List.nil_append, if_neg c2, q3]
          exact key _ (by rw [hcn, if_neg c1, if_neg c2])
  simp only [u_91_0, u_91_1, u_91_2, u_91_3, pm_O_some, pm_w_nil, pm_w_i, pm_w_l, pm_w_r, pm_w_n, pm_c_n, pm_c_i, pm_c_l, pm_c_r, pm_c_u, Nat.reduceAdd, Nat.reduceLeDiff, true_and, Option.toList_some, Option.toList_none, List.cons_append, List.nil_append]
  exact loop n 0 _ (by omega)
theorem c_count (n1 : CC B h n bs ln tx nr sz tm nd dy nl lm ll jk) : PW B X 90 0 [some (.ref B), some (.int w)] [] h Q ↔ Q (some (.int (cnt n bs ln nr sz nd nl w))) h := by
  have cf := n1.1.cf
  have n0 := n1
  obtain ⟨⟨rs, rs2, lw, jh, jm, ra, a1, a2, a3, ⟨a4, at0, fT, b5, b6, b7⟩, a5, a6, a7, a8, a9⟩, n2⟩ := n1
  obtain ⟨fc, fu, fl, fk, fs, g1, g2⟩ := a5
  have g0 := g1.1
  unfold cnt
  by_cases w0 : w = 0
  · subst w0
    simp only [u_90_0, u_90_44, u_90_44n, u_90_45, u_90_48, u_90_1_0, pm_O_some, pm_w_nil, pm_w_i, pm_w_l, pm_w_r, pm_w_n, pm_c_n, pm_c_i, pm_c_l, pm_c_r, pm_c_u, Nat.reduceAdd, Nat.reduceLeDiff, true_and, Option.toList_some, Option.toList_none, List.cons_append, List.nil_append, a1, gf_0_1, if_true]
  rw [if_neg w0]
  by_cases w1 : w = 1
  · subst w1
    simp only [u_90_0, u_90_49, u_90_49n, u_90_50, u_90_53, u_90_56, u_90_1_1, pm_O_some, pm_w_nil, pm_w_i, pm_w_l, pm_w_r, pm_w_n, pm_c_n, pm_c_i, pm_c_l, pm_c_r, pm_c_u, Nat.reduceAdd, Nat.reduceLeDiff, true_and, Option.toList_some, Option.toList_none, List.cons_append, List.nil_append, a1, gf_0_4, g0, gf_3_5, if_true]
  rw [if_neg w1]
  by_cases w2 : w = 2
  · subst w2
    simp only [u_90_0, u_90_57, u_90_57n, u_90_58, u_90_61, u_90_64, u_90_1_2, pm_O_some, pm_w_nil, pm_w_i, pm_w_l, pm_w_r, pm_w_n, pm_c_n, pm_c_i, pm_c_l, pm_c_r, pm_c_u, Nat.reduceAdd, Nat.reduceLeDiff, true_and, Option.toList_some, Option.toList_none, List.cons_append, List.nil_append, a1, gf_0_4, g0, gf_3_6, if_true]
  rw [if_neg w2]
  by_cases w3 : w = 3
  · subst w3
    simp only [u_90_0, u_90_65, u_90_65n, u_90_66, u_90_69, u_90_1_3, pm_O_some, pm_w_nil, pm_w_i, pm_w_l, pm_w_r, pm_w_n, pm_c_n, pm_c_i, pm_c_l, pm_c_r, pm_c_u, Nat.reduceAdd, Nat.reduceLeDiff, true_and, Option.toList_some, Option.toList_none, List.cons_append, List.nil_append, a1, gf_0_10, if_true]
  rw [if_neg w3]
  by_cases w4 : w = 4
  · subst w4
    simp only [u_90_0, u_90_70, u_90_70n, u_90_71, u_90_74, u_90_1_4, pm_O_some, pm_w_nil, pm_w_i, pm_w_l, pm_w_r, pm_w_n, pm_c_n, pm_c_i, pm_c_l, pm_c_r, pm_c_u, Nat.reduceAdd, Nat.reduceLeDiff, true_and, Option.toList_some, Option.toList_none, List.cons_append, List.nil_append, a1, gf_0_15, if_true]
  rw [if_neg w4]
  by_cases w5 : w = 5
  · subst w5
    simp only [u_90_0, u_90_75, u_90_75n, u_90_76, u_90_79, u_90_1_5, pm_O_some, pm_w_nil, pm_w_i, pm_w_l, pm_w_r, pm_w_n, pm_c_n, pm_c_i, pm_c_l, pm_c_r, pm_c_u, Nat.reduceAdd, Nat.reduceLeDiff, true_and, Option.toList_some, Option.toList_none, List.cons_append, List.nil_append, cf.io, c_heldAll n0, if_true]
  rw [if_neg w5]
  by_cases w6 : w = 6
  · subst w6
    simp only [u_90_0, u_90_80, u_90_80n, u_90_81, u_90_84, u_90_87, u_90_1_6, pm_O_some, pm_w_nil, pm_w_i, pm_w_l, pm_w_r, pm_w_n, pm_c_n, pm_c_i, pm_c_l, pm_c_r, pm_c_u, Nat.reduceAdd, Nat.reduceLeDiff, true_and, Option.toList_some, Option.toList_none, List.cons_append, List.nil_append, a1, gf_0_3, b5, gf_2_1, if_true]
  rw [if_neg w6]
  have hx : w.toInt < 0 ∨ 6 < w.toInt := by
    rw [← Int32.toInt_inj] at w0 w1 w2 w3 w4 w5 w6
    change ¬ w.toInt = 0 at w0
    change ¬ w.toInt = 1 at w1
    change ¬ w.toInt = 2 at w2
    change ¬ w.toInt = 3 at w3
    change ¬ w.toInt = 4 at w4
    change ¬ w.toInt = 5 at w5
    change ¬ w.toInt = 6 at w6
    omega
  simp only [u_90_0, u_90_88, u_90_89, u_90_1_d hx, pm_O_some, pm_w_nil, pm_w_i, pm_w_l, pm_w_r, pm_w_n, pm_c_n, pm_c_i, pm_c_l, pm_c_r, pm_c_u, Nat.reduceAdd, Nat.reduceLeDiff, true_and, Option.toList_some, Option.toList_none, List.cons_append, List.nil_append]
theorem i_bear (ha : a = B + h.length) (hQ : ∀ f : Nat → Int32, (∀ j, j < 24 → f j = 1) → Q none (h ++ [.inr (9, [.int x, .int y, .int 0, .int 0, .ref (a + 1), .ref (a + 2), .int 0, .int 0, .int 0, .ref (a + 3)]), .inl (0, 24, .inl (fun _ => 0)), .inl (0, 24, .inl f), .inr (8, [.int 0, .ref (a + 4), .ref (a + 6)]), .inr (5, [.ref (a + 5), .int 0]), .inl (1, 12, .inr (.inl (fun _ => 0))), .inr (5, [.ref (a + 7), .int 1]), .inl (1, 12, .inr (.inl (vp_updL (fun _ => 0) 0 1)))])) : PW B X 13 0 [some (.ref a), some (.int x), some (.int y), none] [] (h ++ [.inr (9, [.int 0, .int 0, .int 0, .int 0, .null, .null, .int 0, .int 0, .int 0, .null])]) Q := by
  simp only [u_13_0, u_13_0n, u_13_1, u_13_4, u_13_4n, u_13_5, u_13_7, pm_O_some, pm_w_nil, pm_w_i, pm_w_l, pm_w_r, pm_w_n, pm_c_n, pm_c_i, pm_c_l, pm_c_r, pm_c_u, Nat.reduceAdd, Nat.reduceLeDiff, true_and, Option.toList_some, Option.toList_none, List.cons_append, List.nil_append]
  simp only [u_13_9, pm_O_some, pm_w_nil, pm_w_i, pm_w_l, pm_w_r, pm_w_n, pm_c_n, pm_c_i, pm_c_l, pm_c_r, pm_c_u, Nat.reduceAdd, Nat.reduceLeDiff, true_and, Option.toList_some, Option.toList_none, List.cons_append, List.nil_append, List.append_assoc, ap_at0 ha, ap_at _ ha, ap_set0 ha, ap_set _ ha, ap_len ha, List.getElem?_cons_zero, List.getElem?_cons_succ, List.set_cons_zero, List.set_cons_succ, List.length_cons, List.length_nil, Nat.add_assoc, pf_9_4]
  simp only [u_13_12, u_13_12n, u_13_13, u_13_15, pm_O_some, pm_w_nil, pm_w_i, pm_w_l, pm_w_r, pm_w_n, pm_c_n, pm_c_i, pm_c_l, pm_c_r, pm_c_u, Nat.reduceAdd, Nat.reduceLeDiff, true_and, Option.toList_some, Option.toList_none, List.cons_append, List.nil_append]
  simp only [u_13_17, pm_O_some, pm_w_nil, pm_w_i, pm_w_l, pm_w_r, pm_w_n, pm_c_n, pm_c_i, pm_c_l, pm_c_r, pm_c_u, Nat.reduceAdd, Nat.reduceLeDiff, true_and, Option.toList_some, Option.toList_none, List.cons_append, List.nil_append, List.append_assoc, ap_at0 ha, ap_at _ ha, ap_set0 ha, ap_set _ ha, ap_len ha, List.getElem?_cons_zero, List.getElem?_cons_succ, List.set_cons_zero, List.set_cons_succ, List.length_cons, List.length_nil, Nat.add_assoc, pf_9_5]
  simp only [u_13_20, u_13_20n, u_13_21, u_13_24, u_13_24i, u_13_25, pm_O_some, pm_w_nil, pm_w_i, pm_w_l, pm_w_r, pm_w_n, pm_c_n, pm_c_i, pm_c_l, pm_c_r, pm_c_u, Nat.reduceAdd, Nat.reduceLeDiff, true_and, Option.toList_some, Option.toList_none, List.cons_append, List.nil_append, i_frac rfl]
  simp only [u_13_28, u_13_31, u_13_31n, u_13_32, u_13_33, u_13_36, u_13_36n, u_13_37, u_13_38, u_13_41, u_13_42, pm_O_some, pm_w_nil, pm_w_i, pm_w_l, pm_w_r, pm_w_n, pm_c_n, pm_c_i, pm_c_l, pm_c_r, pm_c_u, Nat.reduceAdd, Nat.reduceLeDiff, true_and, Option.toList_some, Option.toList_none, List.cons_append, List.nil_append, List.append_assoc, ap_at0 ha, ap_at _ ha, ap_set0 ha, ap_set _ ha, ap_len ha, List.getElem?_cons_zero, List.getElem?_cons_succ, List.set_cons_zero, List.set_cons_succ, List.length_cons, List.length_nil, Nat.add_assoc, pf_9_9, pf_9_0, pf_9_1]
  have loop : ∀ m k (f : Nat → Int32), k + m = 24 → (∀ j, j < k → f j = 1) → PW B X 13 43 [some (.ref a), some (.int x), some (.int y), some (.int (nI k))] [] (h ++ [.inr (9, [.int x, .int y, .int 0, .int 0, .ref (a + 1), .ref (a + 2), .int 0, .int 0, .int 0, .ref (a + 3)]), .inl (0, 24, .inl (fun _ => 0)), .inl (0, 24, .inl f), .inr (8, [.int 0, .ref (a + 4), .ref (a + 6)]), .inr (5, [.ref (a + 5), .int 0]), .inl (1, 12, .inr (.inl (fun _ => 0))), .inr (5, [.ref (a + 7), .int 1]), .inl (1, 12, .inr (.inl (vp_updL (fun _ => 0) 0 1)))]) Q := by
    intro m
    induction m with
    | zero =>
      intro k f hk hf
      obtain rfl : k = 24 := by omega
      have e1 : Int32.ofNat 24 ≤ nI 24 := by decide
      simp only [u_13_43, u_13_44, u_13_44n, u_13_45, u_13_48, u_13_49, u_13_65, pm_O_some, pm_w_nil, pm_w_i, pm_w_l, pm_w_r, pm_w_n, pm_c_n, pm_c_i, pm_c_l, pm_c_r, pm_c_u, Nat.reduceAdd, Nat.reduceLeDiff, true_and, Option.toList_some, Option.toList_none, List.cons_append, List.nil_append, List.append_assoc, ap_at0 ha, ap_at _ ha, ap_set0 ha, ap_set _ ha, ap_len ha, List.getElem?_cons_zero, List.getElem?_cons_succ, List.set_cons_zero, List.set_cons_succ, List.length_cons, List.length_nil, Nat.add_assoc, gf_9_5, ln_a (t := 0) rfl, if_pos e1]
      exact hQ f hf
    | succ m ih =>
      intro k f hk hf
      have e1 : ¬ Int32.ofNat 24 ≤ nI k := nI_ge (b := 24) (by omega) (by decide)
      rw [u_13_43]
      simp only [u_13_44, u_13_44n, u_13_45, u_13_48, u_13_49, u_13_52, u_13_52n, u_13_53, u_13_56, u_13_57, u_13_58, u_13_59, u_13_62, pm_O_some, pm_w_nil, pm_w_i, pm_w_l, pm_w_r, pm_w_n, pm_c_n, pm_c_i, pm_c_l, pm_c_r, pm_c_u, Nat.reduceAdd, Nat.reduceLeDiff, true_and, Option.toList_some, Option.toList_none, List.cons_append, List.nil_append, List.append_assoc, ap_at0 ha, ap_at _ ha, ap_set0 ha, ap_set _ ha, ap_len ha, List.getElem?_cons_zero, List.getElem?_cons_succ, List.set_cons_zero, List.set_cons_succ, List.length_cons, List.length_nil, Nat.add_assoc, gf_9_5, ln_a (t := 0) rfl, if_neg e1, st_i (t := 0) (ix_24 (show k < 24 by omega)) rfl, nI_clamp (show k < 2 ^ 31 by omega), ty_0, nI_1]
      refine ih (k + 1) _ (by omega) (fun j hj => ?_)
      by_cases hjk : j = k
      · exact if_pos hjk
      · exact (if_neg hjk).trans (hf j (by omega))
  exact loop 24 0 _ (by omega) (fun j hj => by omega)
end SE5

/-! THE CALLS THAT CHANGE THE STATE: value, joint, unit, day, list, jack; raised, count. -/
theorem wi {a b x : Int32} {A C : Int} (ha : a.toInt = A) (hc : b.toInt = C) : (a ≤ x ∧ x ≤ b) ↔ (A ≤ x.toInt ∧ x.toInt ≤ C) := by rw [i_le, i_le, ha, hc]
theorem w_kind {x : Int32} : ((0 : Int32) ≤ x ∧ x ≤ 7) ↔ (0 ≤ x.toInt ∧ x.toInt ≤ 7) := wi rfl rfl
theorem w_axis {x : Int32} : ((0 : Int32) ≤ x ∧ x ≤ 2) ↔ (0 ≤ x.toInt ∧ x.toInt ≤ 2) := wi rfl rfl
theorem w_ab {x : Int32} : ((-1000000 : Int32) ≤ x ∧ x ≤ 1000000) ↔ (-1000000 ≤ x.toInt ∧ x.toInt ≤ 1000000) := wi rfl rfl
theorem w_be {x : Int32} : ((1 : Int32) ≤ x ∧ x ≤ 1000) ↔ (1 ≤ x.toInt ∧ x.toInt ≤ 1000) := wi rfl rfl
theorem w_far {x : Int32} : ((-100000 : Int32) ≤ x ∧ x ≤ 100000) ↔ (-100000 ≤ x.toInt ∧ x.toInt ≤ 100000) := wi rfl rfl
theorem w_len {x : Int32} : ((0 : Int32) ≤ x ∧ x ≤ 1000000) ↔ (0 ≤ x.toInt ∧ x.toInt ≤ 1000000) := wi rfl rfl
theorem w_gap {x : Int32} : ((-10000 : Int32) ≤ x ∧ x ≤ 10000) ↔ (-10000 ≤ x.toInt ∧ x.toInt ≤ 10000) := wi rfl rfl
theorem w_warm {x : Int32} : ((-600 : Int32) ≤ x ∧ x ≤ 900) ↔ (-600 ≤ x.toInt ∧ x.toInt ≤ 900) := wi rfl rfl
theorem w_mov {x : Int32} : ((0 : Int32) ≤ x ∧ x ≤ 100000) ↔ (0 ≤ x.toInt ∧ x.toInt ≤ 100000) := wi rfl rfl
theorem w_load {x : Int32} : ((0 : Int32) ≤ x ∧ x ≤ 10000000) ↔ (0 ≤ x.toInt ∧ x.toInt ≤ 10000000) := wi rfl rfl
theorem w_high {x : Int32} : ((1 : Int32) ≤ x ∧ x ≤ 10000) ↔ (1 ≤ x.toInt ∧ x.toInt ≤ 10000) := wi rfl rfl
theorem w_unit {x : Int32} : ((32 : Int32) ≤ x ∧ x ≤ 126) ↔ (32 ≤ x.toInt ∧ x.toInt ≤ 126) := wi rfl rfl
theorem nI_mul3 {k a : Nat} : nI k * 3 + nI a = nI (k * 3 + a) := by
  show nI k * nI 3 + nI a = _
  rw [show nI k * nI 3 = nI (k * 3) from (Int32.ofNat_mul k 3).symm, nI_add]
theorem ty_0 : vp_nar (pm_ty 0) = fun x : Int32 => x := rfl
def vset (g : Bg) (kd ax : Nat) (ab : Int) (be : Nat) : Bg := (g.1, g.2.1, g.2.2.1, g.2.2.2.1, (fun k a => if k = kd ∧ a = ax then ab else g.2.2.2.2.1 k a), (fun k a => if k = kd ∧ a = ax then be else g.2.2.2.2.2.1 k a), g.2.2.2.2.2.2)
def jset (g : Bg) (l p w : Int32) : Bg := (g.1, g.2.1, g.2.2.1, g.2.2.2.1, g.2.2.2.2.1, g.2.2.2.2.2.1, l, p, w)
section SE
variable {B : Nat} {X : pm_X} {h h' h2 : pm_H} {Q : Option Value → pm_H → Prop} {e lo hi n ln nr nd nl i : Nat} {bs : Nat → Bg} {tx sz lm ll : Nat → Nat} {tm : Nat → Nat → Tm} {dy : Nat → Int} {jk : Option (Nat × Nat)} {g : Bg} {b x y z ax : Int32}
set_option maxHeartbeats 1000000 in
theorem c_value {kd ab be : Int32} (n1 : CC B h n bs ln tx nr sz tm nd dy nl lm ll jk) (hg : vb n b ∧ (0 ≤ kd.toInt ∧ kd.toInt ≤ 7) ∧ (0 ≤ ax.toInt ∧ ax.toInt ≤ 2) ∧ (-1000000 ≤ ab.toInt ∧ ab.toInt ≤ 1000000) ∧ (1 ≤ be.toInt ∧ be.toInt ≤ 1000) → ∀ h', CC B h' n (upb bs (ix b) (vset (bs (ix b)) (ix kd) (ix ax) ab.toInt (ix be))) ln tx nr sz tm nd dy nl lm ll jk → Kp B h h' → Q (some (.int 1)) h')
    (hb : ¬ (vb n b ∧ (0 ≤ kd.toInt ∧ kd.toInt ≤ 7) ∧ (0 ≤ ax.toInt ∧ ax.toInt ≤ 2) ∧ (-1000000 ≤ ab.toInt ∧ ab.toInt ≤ 1000000) ∧ (1 ≤ be.toInt ∧ be.toInt ≤ 1000)) → Q (some (.int 0)) h) :
    PW B X 16 0 [some (.ref B), some (.int kd), some (.int b), some (.int ax), some (.int ab), some (.int be), none] [] h Q := by
  have cf := n1.1.cf
  by_cases h1 : vb n b
  · obtain ⟨e1, e2⟩ := vb_ix h1
    generalize ix b = i at hg e1 e2
    subst e1
    by_cases hV : (0 ≤ kd.toInt ∧ kd.toInt ≤ 7) ∧ (0 ≤ ax.toInt ∧ ax.toInt ≤ 2) ∧ (-1000000 ≤ ab.toInt ∧ ab.toInt ≤ 1000000) ∧ (1 ≤ be.toInt ∧ be.toInt ≤ 1000)
    · have hg2 := hg ⟨h1, hV⟩
      clear hg
      obtain ⟨v1, v2, v3, v4⟩ := hV
      have k1 := nI_ix v1.1
      have k2 := ix_T v1.1
      generalize ix kd = kk at hg2 k1 k2
      have k3 := nI_ix v2.1
      have k4 := ix_T v2.1
      generalize ix ax = aa at hg2 k3 k4
      have k5 := nI_ix (b := be) (by omega)
      have k6 := ix_T (b := be) (by omega)
      generalize ix be = bb at hg2 k5 k6
      subst k1
      subst k3
      subst k5
      obtain ⟨b0, ⟨fa, fb, b1, b2, b3⟩, s, U, L, b4⟩ := (n1.bev e2).1
      have m1 : kk * 3 + aa < 24 := by omega
      simp only [u_16_0, u_16_0n, u_16_1, u_16_2, u_16_5, u_16_5n, u_16_7, u_16_7n, u_16_9, u_16_9n, u_16_12, u_16_13, u_16_14, u_16_16, u_16_19, u_16_22, u_16_23, u_16_26, u_16_29, u_16_31, u_16_33, u_16_35, u_16_38, u_16_41, u_16_43, u_16_44, u_16_47, u_16_50, u_16_53, u_16_54, u_16_54_0, u_16_54_1, u_16_55, u_16_55n, u_16_57, u_16_60, u_16_61, u_16_62, u_16_63, u_16_64, u_16_65, u_16_67, pm_O_some, pm_w_nil, pm_w_i, pm_w_l, pm_w_r, pm_w_n, pm_c_n, pm_c_i, pm_c_l, pm_c_r, pm_c_u, Nat.reduceAdd, Nat.reduceLeDiff, true_and, Option.toList_some, Option.toList_none, List.cons_append, List.nil_append, cf.io, s_find_t cf e2, s_within, s_axis, one0, ite_not, w_kind, w_axis, w_ab, w_be, if_pos v1, if_pos v2, if_pos v3, if_pos v4, b0, gf_9_4, b1, nI_mul3, st_i (t := 0) (pm_ix_of m1 (by decide)) rfl, nI_clamp (show kk * 3 + aa < 2 ^ 31 by omega), ty_0]
      have F := Frm.set (e := .inl (0, 24, .inl (upd fa (kk * 3 + aa) ab))) b1 rfl
      have t0 := (F.2.2 (B + 95 + 8 * i) (by omega)).trans b0
      have t1 := pm_at_self (e := .inl (0, 24, .inl (upd fa (kk * 3 + aa) ab))) (pm_v_at b1)
      have t2 := (F.2.2 (B + 95 + 8 * i + 2) (by omega)).trans b2
      have t4 := b4.frm F (by omega)
      generalize pm_set B h (B + 95 + 8 * i + 1) (.inl (0, 24, .inl (upd fa (kk * 3 + aa) ab))) = ha at F t0 t1 t2 t4 ⊢
      simp only [u_16_68, u_16_68n, u_16_70, u_16_73, u_16_74, u_16_75, u_16_76, u_16_77, u_16_78, u_16_80, u_16_81, u_16_82, u_16_82_0, u_16_82_1, pm_O_some, pm_w_nil, pm_w_i, pm_w_l, pm_w_r, pm_w_n, pm_c_n, pm_c_i, pm_c_l, pm_c_r, pm_c_u, Nat.reduceAdd, Nat.reduceLeDiff, true_and, Option.toList_some, Option.toList_none, List.cons_append, List.nil_append, t0, gf_9_5, t2, nI_mul3, st_i (t := 0) (pm_ix_of m1 (by decide)) rfl, nI_clamp (show kk * 3 + aa < 2 ^ 31 by omega), ty_0]
      have G := Frm.set (e := .inl (0, 24, .inl (upd fb (kk * 3 + aa) (nI bb)))) t2 rfl
      have u0 := (G.2.2 (B + 95 + 8 * i) (by omega)).trans t0
      have u1 := (G.2.2 (B + 95 + 8 * i + 1) (by omega)).trans t1
      have u2 := pm_at_self (e := .inl (0, 24, .inl (upd fb (kk * 3 + aa) (nI bb)))) (pm_v_at t2)
      have u4 := t4.frm G (by omega)
      generalize pm_set B ha (B + 95 + 8 * i + 2) (.inl (0, 24, .inl (upd fb (kk * 3 + aa) (nI bb)))) = hb at G u0 u1 u2 u4 ⊢
      have FG : Frm B h hb (B + 95 + 8 * i) (B + 95 + 8 * i + 8) := (F.mono (by omega) (by omega)).trans (G.mono (by omega) (by omega))
      refine hg2 hb (n1.up e2 FG ⟨u0, ⟨_, _, u1, u2, fun j a hj ha => ?_⟩, s, U, L, u4⟩ (n1.bev e2).2) (Kp.of FG (by omega))
      have c3 := b3 j a hj ha
      by_cases hja : j = kk ∧ a = aa
      · obtain ⟨rfl, rfl⟩ := hja
        simp only [upd, if_true, vset, and_self]
        refine ⟨trivial, v3, trivial, by omega, by omega⟩
      · have : ¬ j * 3 + a = kk * 3 + aa := by omega
        simp only [upd, if_neg this, vset, if_neg hja]
        exact c3
    · simp only [u_16_0, u_16_0n, u_16_1, u_16_2, u_16_5, u_16_5n, u_16_7, u_16_7n, u_16_9, u_16_9n, u_16_12, u_16_13, u_16_14, u_16_16, u_16_19, u_16_22, u_16_23, u_16_26, u_16_29, u_16_31, u_16_33, u_16_35, u_16_38, u_16_41, u_16_43, u_16_44, u_16_47, u_16_50, pm_O_some, pm_w_nil, pm_w_i, pm_w_l, pm_w_r, pm_w_n, pm_c_n, pm_c_i, pm_c_l, pm_c_r, pm_c_u, Nat.reduceAdd, Nat.reduceLeDiff, true_and, Option.toList_some, Option.toList_none, List.cons_append, List.nil_append, cf.io, s_find_t cf e2, s_within, s_axis, one0, ite_not, w_kind, w_axis, w_ab, w_be]
      have hb := hb (fun c => hV c.2)
      repeat' split
      all_goals first | (simp only [u_16_53, u_16_54, u_16_54_0, u_16_54_1, pm_O_some, pm_w_nil, pm_w_i, pm_w_l, pm_w_r, pm_w_n, pm_c_n, pm_c_i, pm_c_l, pm_c_r, pm_c_u, Nat.reduceAdd, Nat.reduceLeDiff, true_and, Option.toList_some, Option.toList_none, List.cons_append, List.nil_append]; exact hb) | exact absurd ⟨by assumption, by assumption, by assumption, by assumption⟩ hV
  · simp only [u_16_0, u_16_0n, u_16_1, u_16_2, u_16_5, u_16_5n, u_16_7, u_16_7n, u_16_9, u_16_9n, u_16_12, u_16_13, u_16_14, u_16_16, u_16_19, u_16_22, u_16_23, u_16_26, u_16_29, u_16_31, u_16_33, u_16_35, u_16_38, u_16_41, u_16_43, u_16_44, u_16_47, u_16_50, u_16_53, u_16_54, u_16_54_0, u_16_54_1, pm_O_some, pm_w_nil, pm_w_i, pm_w_l, pm_w_r, pm_w_n, pm_c_n, pm_c_i, pm_c_l, pm_c_r, pm_c_u, Nat.reduceAdd, Nat.reduceLeDiff, true_and, Option.toList_some, Option.toList_none, List.cons_append, List.nil_append, cf.io, s_find_f cf h1]
    exact hb (fun c => h1 c.1)
theorem c_joint {l p w : Int32} (n1 : CC B h n bs ln tx nr sz tm nd dy nl lm ll jk) (hg : vb n b ∧ (0 ≤ l.toInt ∧ l.toInt ≤ 1000000) ∧ (-10000 ≤ p.toInt ∧ p.toInt ≤ 10000) ∧ (-600 ≤ w.toInt ∧ w.toInt ≤ 900) → ∀ h', CC B h' n (upb bs (ix b) (jset (bs (ix b)) l p w)) ln tx nr sz tm nd dy nl lm ll jk → Kp B h h' → Q (some (.int 1)) h')
    (hb : ¬ (vb n b ∧ (0 ≤ l.toInt ∧ l.toInt ≤ 1000000) ∧ (-10000 ≤ p.toInt ∧ p.toInt ≤ 10000) ∧ (-600 ≤ w.toInt ∧ w.toInt ≤ 900)) → Q (some (.int 0)) h) :
    PW B X 72 0 [some (.ref B), some (.int b), some (.int l), some (.int p), some (.int w), none] [] h Q := by
  have cf := n1.1.cf
  by_cases h1 : vb n b
  · obtain ⟨e1, e2⟩ := vb_ix h1
    generalize ix b = i at hg e1 e2
    subst e1
    by_cases hV : (0 ≤ l.toInt ∧ l.toInt ≤ 1000000) ∧ (-10000 ≤ p.toInt ∧ p.toInt ≤ 10000) ∧ (-600 ≤ w.toInt ∧ w.toInt ≤ 900)
    · have hg := hg ⟨h1, hV⟩
      obtain ⟨v1, v2, v3⟩ := hV
      have be := n1.bev e2
      obtain ⟨b0, bq⟩ := be.1
      have at1 := pm_v_at b0
      simp only [u_72_0, u_72_0n, u_72_1, u_72_2, u_72_5, u_72_5n, u_72_7, u_72_7n, u_72_9, u_72_9n, u_72_12, u_72_13, u_72_14, u_72_16, u_72_19, u_72_22, u_72_23, u_72_26, u_72_29, u_72_32, u_72_35, u_72_37, u_72_40, u_72_43, u_72_44, u_72_44_0, u_72_44_1, u_72_45, u_72_45n, u_72_47, u_72_48, u_72_51, u_72_51n, u_72_53, u_72_54, u_72_57, u_72_57n, u_72_59, u_72_61, u_72_64, u_72_65, u_72_65_0, u_72_65_1, pm_O_some, pm_w_nil, pm_w_i, pm_w_l, pm_w_r, pm_w_n, pm_c_n, pm_c_i, pm_c_l, pm_c_r, pm_c_u, Nat.reduceAdd, Nat.reduceLeDiff, true_and, Option.toList_some, Option.toList_none, List.cons_append, List.nil_append, cf.io, s_find_t cf e2, s_within, s_warm, one0, ite_not, w_len, w_gap, w_warm, if_pos v1, if_pos v2, if_pos v3, b0, pf_9_6, pf_9_7, pf_9_8, pm_at_self at1, pm_v_set, pm_set_set]
      obtain ⟨d1, d2⟩ := BeG.put be.1 (jset (bs i) l p w) rfl rfl
      refine hg _ (n1.up e2 (d2.mono (by omega) (by omega)) d1 ?_) (Kp.of d2 (by omega))
      obtain ⟨c1, c2, c3, c4, c5⟩ := be.2
      exact ⟨c1, c2, c3, c4, v1, v2, v3⟩
    · simp only [u_72_0, u_72_0n, u_72_1, u_72_2, u_72_5, u_72_5n, u_72_7, u_72_7n, u_72_9, u_72_9n, u_72_12, u_72_13, u_72_14, u_72_16, u_72_19, u_72_22, u_72_23, u_72_26, u_72_29, u_72_32, u_72_35, u_72_37, u_72_40, pm_O_some, pm_w_nil, pm_w_i, pm_w_l, pm_w_r, pm_w_n, pm_c_n, pm_c_i, pm_c_l, pm_c_r, pm_c_u, Nat.reduceAdd, Nat.reduceLeDiff, true_and, Option.toList_some, Option.toList_none, List.cons_append, List.nil_append, cf.io, s_find_t cf e2, s_within, s_warm, one0, ite_not, w_len, w_gap, w_warm]
      have hb := hb (fun c => hV c.2)
      repeat' split
      all_goals first | (simp only [u_72_43, u_72_44, u_72_44_0, u_72_44_1, pm_O_some, pm_w_nil, pm_w_i, pm_w_l, pm_w_r, pm_w_n, pm_c_n, pm_c_i, pm_c_l, pm_c_r, pm_c_u, Nat.reduceAdd, Nat.reduceLeDiff, true_and, Option.toList_some, Option.toList_none, List.cons_append, List.nil_append]; exact hb) | exact absurd ⟨by assumption, by assumption, by assumption⟩ hV
  · simp only [u_72_0, u_72_0n, u_72_1, u_72_2, u_72_5, u_72_5n, u_72_7, u_72_7n, u_72_9, u_72_9n, u_72_12, u_72_13, u_72_14, u_72_16, u_72_19, u_72_22, u_72_23, u_72_26, u_72_29, u_72_32, u_72_35, u_72_37, u_72_40, u_72_43, u_72_44, u_72_44_0, u_72_44_1, pm_O_some, pm_w_nil, pm_w_i, pm_w_l, pm_w_r, pm_w_n, pm_c_n, pm_c_i, pm_c_l, pm_c_r, pm_c_u, Nat.reduceAdd, Nat.reduceLeDiff, true_and, Option.toList_some, Option.toList_none, List.cons_append, List.nil_append, cf.io, s_find_f cf h1]
    exact hb (fun c => h1 c.1)
end SE

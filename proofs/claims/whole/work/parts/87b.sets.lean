/-! THE REFERENCE'S CALLS THAT SET. -/
theorem ix_10 {k : Nat} (h : k < 10) : pm_ix (nI k) 10 = true := pm_ix_of h (by decide)
theorem ix_20 {k : Nat} (h : k < 20) : pm_ix (nI k) 20 = true := pm_ix_of h (by decide)
theorem ix_240 {k : Nat} (h : k < 240) : pm_ix (nI k) 240 = true := pm_ix_of h (by decide)
theorem ix_200 {k : Nat} (h : k < 200) : pm_ix (nI k) 200 = true := pm_ix_of h (by decide)
theorem ix_192 {k : Nat} (h : k < 192) : pm_ix (nI k) 192 = true := pm_ix_of h (by decide)
theorem ix_400 {k : Nat} (h : k < 400) : pm_ix (nI k) 400 = true := pm_ix_of h (by decide)
theorem ix_12 {k : Nat} (h : k < 12) : pm_ix (nI k) 12 = true := pm_ix_of h (by decide)
theorem nb_3 {x : Int32} (h : x = 0 ∨ x = 1) : vp_nar (pm_ty 3) x = x := by
  rcases h with rfl | rfl <;> rfl
section RSS
variable {B : Nat} {X : pm_X} {h h' h2 : pm_H} {Q : Option Value → pm_H → Prop} {m lo hi n ln nr nd nl i : Nat} {bs : Nat → Bg} {tx sz lm ll : Nat → Nat} {tm : Nat → Nat → Tm} {dy : Nat → Int} {jk : Option (Nat × Nat)} {g : Bg} {b x y z ax : Int32} {R : Nat → Rg}
theorem r_bearing (so : SO n bs ln tx nr sz tm nd dy nl lm ll jk) (n1 : MI B h m n bs ln tx nr sz tm nd dy nl lm ll jk) (hg : n < 10 ∧ (-100000 ≤ x.toInt ∧ x.toInt ≤ 100000) ∧ (-100000 ≤ y.toInt ∧ y.toInt ≤ 100000) → ∀ h', MI B h' m (n + 1) (upb bs n (bg0 x y)) ln tx nr sz tm nd dy nl lm ll none → Frm B h h' m (m + 24) → Q (some (.int (nI n))) h')
    (hb : ¬ (n < 10 ∧ (-100000 ≤ x.toInt ∧ x.toInt ≤ 100000) ∧ (-100000 ≤ y.toInt ∧ y.toInt ≤ 100000)) → Q (some (.int (-1))) h) : PW B X 93 0 [some (.ref m), some (.int x), some (.int y)] [] h Q := by
  have hn := so.1.1
  obtain ⟨⟨x8, x9, x13, jh, jm, x31, x32, c, cj⟩, ⟨fx, fy, b1, b2, b3⟩, a3, a4, a5, a6, a7, a8, a9, a10, a11, a12, R, a13⟩ := n1
  by_cases h1 : n = 10
  · have e : nI n = 10 := by rw [h1]; rfl
    simp only [u_93_0, u_93_0n, u_93_1, u_93_4, u_93_6, u_93_37, u_93_38, pm_O_some, pm_w_nil, pm_w_i, pm_w_l, pm_w_r, pm_w_n, pm_c_n, pm_c_i, pm_c_l, pm_c_r, pm_c_u, Nat.reduceAdd, Nat.reduceLeDiff, true_and, Option.toList_some, Option.toList_none, List.cons_append, List.nil_append, c.g0, if_pos e]
    exact hb (fun c => by omega)
  have e : ¬ nI n = 10 := fun z => h1 ((nI_eq (b := 10) (by omega) (by decide)).mp z)
  by_cases h2 : -100000 ≤ x.toInt ∧ x.toInt ≤ 100000
  · by_cases h3 : -100000 ≤ y.toInt ∧ y.toInt ≤ 100000
    · simp only [u_93_0, u_93_0n, u_93_1, u_93_4, u_93_6, u_93_9, u_93_10, u_93_11, u_93_14, u_93_17, u_93_20, u_93_23, u_93_24, u_93_25, u_93_28, u_93_31, u_93_34, u_93_37, u_93_38, u_93_39, u_93_39n, u_93_40, u_93_43, u_93_43n, u_93_44, u_93_47, u_93_48, pm_O_some, pm_w_nil, pm_w_i, pm_w_l, pm_w_r, pm_w_n, pm_c_n, pm_c_i, pm_c_l, pm_c_r, pm_c_u, Nat.reduceAdd, Nat.reduceLeDiff, true_and, Option.toList_some, Option.toList_none, List.cons_append, List.nil_append, c.g0, c.g1, if_neg e, s_in, wl (a := -100000) (b := 100000) (p := -100000) (q := 100000) rfl rfl, one0, ite_not, if_pos h2, if_pos h3, b1, st_i (t := 0) (ix_10 (show n < 10 by omega)) rfl, nI_clamp (show n < 2 ^ 31 by omega), ty_0]
      have F1 := Frm.set (e := .inl (0, 10, .inl (upd fx n x))) b1 rfl
      have c1 := c.frm F1 (by omega)
      have d2 := (F1.2.2 (m + 2) (by omega)).trans b2
      simp only [u_93_49, u_93_49n, u_93_50, u_93_53, u_93_53n, u_93_54, u_93_57, u_93_58, pm_O_some, pm_w_nil, pm_w_i, pm_w_l, pm_w_r, pm_w_n, pm_c_n, pm_c_i, pm_c_l, pm_c_r, pm_c_u, Nat.reduceAdd, Nat.reduceLeDiff, true_and, Option.toList_some, Option.toList_none, List.cons_append, List.nil_append, c1.g0, c1.g2, d2, st_i (t := 0) (ix_10 (show n < 10 by omega)) rfl, nI_clamp (show n < 2 ^ 31 by omega), ty_0]
      have F2 := Frm.set (e := .inl (0, 10, .inl (upd fy n y))) d2 rfl
      have c2 := c1.frm F2 (by omega)
      simp only [u_93_59, u_93_59n, u_93_60, u_93_60i, u_93_61, u_93_64, u_93_65, u_93_66, pm_O_some, pm_w_nil, pm_w_i, pm_w_l, pm_w_r, pm_w_n, pm_c_n, pm_c_i, pm_c_l, pm_c_r, pm_c_u, Nat.reduceAdd, Nat.reduceLeDiff, true_and, Option.toList_some, Option.toList_none, List.cons_append, List.nil_append, c2.g0, c2.p0, nI_1]
      obtain ⟨c3, F3⟩ := c2.s0 (v := nI (n + 1))
      simp only [u_93_69, u_93_69n, u_93_70, u_93_71, pm_O_some, pm_w_nil, pm_w_i, pm_w_l, pm_w_r, pm_w_n, pm_c_n, pm_c_i, pm_c_l, pm_c_r, pm_c_u, Nat.reduceAdd, Nat.reduceLeDiff, true_and, Option.toList_some, Option.toList_none, List.cons_append, List.nil_append, c3.p25]
      obtain ⟨c4, F4⟩ := c3.s25 (v := 0)
      simp only [u_93_74, u_93_74n, u_93_75, u_93_78, u_93_79, u_93_80, pm_O_some, pm_w_nil, pm_w_i, pm_w_l, pm_w_r, pm_w_n, pm_c_n, pm_c_i, pm_c_l, pm_c_r, pm_c_u, Nat.reduceAdd, Nat.reduceLeDiff, true_and, Option.toList_some, Option.toList_none, List.cons_append, List.nil_append, c4.g0, nI_pred]
      have G : Frm B h _ m (m + 3) := (((F1.mono (by omega) (by omega)).trans (F2.mono (by omega) (by omega))).trans (F3.mono (by omega) (by omega))).trans (F4.mono (by omega) (by omega))
      refine hg ⟨by omega, h2, h3⟩ _ ⟨⟨_, _, _, _, _, _, _, c4, Or.inl ⟨rfl, rfl⟩⟩, ⟨upd fx n x, upd fy n y, ?_, ?_, fun i hi => ?_⟩, ?_, ?_, a5.frm G.fx (by omega), a6.frm G.fx (by omega), ?_, a8.frm G.fx (by omega), a9.frm G.fx (by omega), a10.frm G.fx (by omega), a11.frm G.fx (by omega), a12.frm G.fx (by omega), R, ?_⟩ (G.mono (by omega) (by omega))
      · rw [F4.2.2 _ (by omega), F3.2.2 _ (by omega), F2.2.2 _ (by omega)]
        exact pm_at_self (pm_v_at b1)
      · rw [F4.2.2 _ (by omega), F3.2.2 _ (by omega)]
        exact pm_at_self (pm_v_at d2)
      · unfold upb
        by_cases ci : i = n
        · subst ci
          rw [upd_s, upd_s, if_pos rfl]
          exact ⟨rfl, rfl⟩
        · rw [upd_n ci, upd_n ci, if_neg ci]
          exact b3 i (by omega)
      · obtain ⟨fh, k1, k2⟩ := a3.frm G.fx (by omega)
        refine ⟨fh, k1, fun i hi => ?_⟩
        have := k2 i hi
        unfold df upb at *
        by_cases ci : i = n
        · subst ci
          rw [if_neg (by omega)] at this
          rw [if_pos (by omega), if_pos rfl]
          exact this
        · by_cases cj : i < n
          · rw [if_pos cj] at this
            rw [if_pos (by omega), if_neg ci]
            exact this
          · rw [if_neg cj] at this
            rw [if_neg (by omega)]
            exact this
      · obtain ⟨fa, fb, k1, k2, k3⟩ := a4.frm G.fx (by omega)
        refine ⟨fa, fb, k1, k2, fun i kd ax hi hk ha => ?_⟩
        have := k3 i kd ax hi hk ha
        unfold df upb at *
        by_cases ci : i = n
        · subst ci
          rw [if_neg (by omega)] at this
          rw [if_pos (by omega), if_pos rfl]
          exact this
        · by_cases cj : i < n
          · rw [if_pos cj] at this
            rw [if_pos (by omega), if_neg ci]
            exact this
          · rw [if_neg cj] at this
            rw [if_neg (by omega)]
            exact this
      · obtain ⟨fa, fb, fc, k1, k2, k3, k4⟩ := a7.frm G.fx (by omega)
        refine ⟨fa, fb, fc, k1, k2, k3, fun i hi => ?_⟩
        have := k4 i hi
        unfold df upb at *
        by_cases ci : i = n
        · subst ci
          rw [if_neg (by omega)] at this
          rw [if_pos (by omega), if_pos rfl]
          exact this
        · by_cases cj : i < n
          · rw [if_pos cj] at this
            rw [if_pos (by omega), if_neg ci]
            exact this
          · rw [if_neg cj] at this
            rw [if_neg (by omega)]
            exact this
      · exact ((((a13.fx F1.fx (by omega)).fx F2.fx (by omega)).obj F3.fx c3).obj F4.fx c4)
    · simp only [u_93_0, u_93_0n, u_93_1, u_93_4, u_93_6, u_93_9, u_93_10, u_93_11, u_93_14, u_93_17, u_93_20, u_93_23, u_93_24, u_93_25, u_93_28, u_93_31, u_93_34, u_93_37, u_93_38, pm_O_some, pm_w_nil, pm_w_i, pm_w_l, pm_w_r, pm_w_n, pm_c_n, pm_c_i, pm_c_l, pm_c_r, pm_c_u, Nat.reduceAdd, Nat.reduceLeDiff, true_and, Option.toList_some, Option.toList_none, List.cons_append, List.nil_append, c.g0, if_neg e, s_in, wl (a := -100000) (b := 100000) (p := -100000) (q := 100000) rfl rfl, one0, ite_not, if_pos h2, if_neg h3]
      exact hb (fun c => h3 c.2.2)
  · simp only [u_93_0, u_93_0n, u_93_1, u_93_4, u_93_6, u_93_9, u_93_10, u_93_11, u_93_14, u_93_17, u_93_20, u_93_23, u_93_24, u_93_25, u_93_28, u_93_31, u_93_34, u_93_37, u_93_38, pm_O_some, pm_w_nil, pm_w_i, pm_w_l, pm_w_r, pm_w_n, pm_c_n, pm_c_i, pm_c_l, pm_c_r, pm_c_u, Nat.reduceAdd, Nat.reduceLeDiff, true_and, Option.toList_some, Option.toList_none, List.cons_append, List.nil_append, c.g0, if_neg e, s_in, wl (a := -100000) (b := 100000) (p := -100000) (q := 100000) rfl rfl, one0, ite_not, if_neg h2]
    exact hb (fun c => h2 c.2.1)
theorem r_held {is : Int32} (so : SO n bs ln tx nr sz tm nd dy nl lm ll jk) (n1 : MI B h m n bs ln tx nr sz tm nd dy nl lm ll jk) (hs : is = 0 ∨ is = 1) (hg : vb n b ∧ (ax = 0 ∨ ax = 1) → ∀ h', MI B h' m n (upb bs (ix b) (hset (bs (ix b)) ax is)) ln tx nr sz tm nd dy nl lm ll jk → Frm B h h' m (m + 24) → Q (some (.int 1)) h') (hb : ¬ (vb n b ∧ (ax = 0 ∨ ax = 1)) → Q (some (.int 0)) h) :
    PW B X 95 0 [some (.ref m), some (.int b), some (.int ax), some (.int is)] [] h Q := by
  have hn := so.1.1
  obtain ⟨⟨x8, x9, x13, jh, jm, x31, x32, c, cj⟩, a2, ⟨fh, b1, b2⟩, a4, a5, a6, a7, a8, a9, a10, a11, a12, R, a13⟩ := n1
  have hax : (0 ≤ ax.toInt ∧ ax.toInt ≤ 1) ↔ (ax = 0 ∨ ax = 1) := by
    constructor
    · intro z
      rcases (show ax.toInt = 0 ∨ ax.toInt = 1 by omega) with y | y
      · exact Or.inl (Int32.toInt_inj.mp y)
      · exact Or.inr (Int32.toInt_inj.mp y)
    · rintro (rfl | rfl) <;> decide
  by_cases h1 : 0 ≤ b.toInt ∧ b.toInt < (n : Int)
  · by_cases h2 : 0 ≤ ax.toInt ∧ ax.toInt ≤ 1
    · have hg2 := hg ⟨h1, hax.mp h2⟩
      obtain ⟨i, hi, hbi, hxi⟩ := vb_e hn h1
      rw [hxi] at hg2
      have ha : ∃ a, a < 2 ∧ ax = nI a := by
        rcases hax.mp h2 with z | z
        · exact ⟨0, by omega, z⟩
        · exact ⟨1, by omega, z⟩
      obtain ⟨a, ha, hae⟩ := ha
      have ex : (2 : Int32) * b + ax = nI (2 * i + a) := by
        rw [hbi, hae, show (2 : Int32) = nI 2 from rfl, nI_mul, nI_add]
      simp only [u_95_0, u_95_0n, u_95_1, u_95_2, u_95_5, u_95_8, u_95_9, u_95_10, u_95_11, u_95_12, u_95_15, u_95_18, u_95_19, u_95_19_0, u_95_19_1, u_95_20, u_95_20n, u_95_21, u_95_24, u_95_25, u_95_26, u_95_27, u_95_28, u_95_29, u_95_30, pm_O_some, pm_w_nil, pm_w_i, pm_w_l, pm_w_r, pm_w_n, pm_c_n, pm_c_i, pm_c_l, pm_c_r, pm_c_u, Nat.reduceAdd, Nat.reduceLeDiff, true_and, Option.toList_some, Option.toList_none, List.cons_append, List.nil_append, c.io, s_isB c hn, s_in, wl (a := 0) (b := 1) (p := 0) (q := 1) rfl rfl, one0, ite_not, if_pos h1, if_pos h2, c.g3, b1, ex, st_i (t := 3) (ix_20 (show 2 * i + a < 20 by omega)) rfl, nI_clamp (show 2 * i + a < 2 ^ 31 by omega), nb_3 hs]
      have F1 := Frm.set (e := .inl (3, 20, .inl (upd fh (2 * i + a) is))) b1 rfl
      simp only [u_95_31, u_95_32, u_95_32_0, u_95_32_1, pm_O_some, pm_w_nil, pm_w_i, pm_w_l, pm_w_r, pm_w_n, pm_c_n, pm_c_i, pm_c_l, pm_c_r, pm_c_u, Nat.reduceAdd, Nat.reduceLeDiff, true_and, Option.toList_some, Option.toList_none, List.cons_append, List.nil_append]
      have hdf : ∀ j, df n (upb bs i (hset (bs i) ax is)) j = if j = i then hset (bs i) ax is else df n bs j := fun j => df_up hi
      refine hg2 _ ⟨⟨x8, x9, x13, jh, jm, x31, x32, c.frm F1 (by omega), cj⟩, ?_, ⟨upd fh (2 * i + a) is, pm_at_self (pm_v_at b1), fun j hj => ?_⟩, ?_, a5.frm F1.fx (by omega), a6.frm F1.fx (by omega), ?_, a8.frm F1.fx (by omega), a9.frm F1.fx (by omega), a10.frm F1.fx (by omega), a11.frm F1.fx (by omega), a12.frm F1.fx (by omega), R, a13.fx F1.fx (by omega)⟩ (F1.mono (by omega) (by omega))
      · obtain ⟨fx, fy, k1, k2, k3⟩ := a2.frm F1.fx (by omega)
        refine ⟨fx, fy, k1, k2, fun j hj => ?_⟩
        unfold upb hset
        by_cases c1 : j = i
        · rw [if_pos c1]
          subst c1
          split <;> exact k3 j hj
        · rw [if_neg c1]
          exact k3 j hj
      · rw [hdf]
        by_cases c1 : j = i
        · subst c1
          rw [if_pos rfl]
          have k := b2 j hj
          rw [df_in hi] at k
          unfold hset
          rcases (show a = 0 ∨ a = 1 by omega) with z | z
          · subst z
            rw [if_pos (show ax = 0 from hae), Nat.add_zero, upd_s, upd_n (by omega)]
            exact ⟨rfl, k.2⟩
          · subst z
            rw [if_neg (show ¬ ax = 0 by rw [hae]; decide), upd_s, upd_n (by omega)]
            exact ⟨k.1, rfl⟩
        · rw [if_neg c1, upd_n (by omega), upd_n (by omega)]
          exact b2 j hj
      · obtain ⟨fa, fb, k1, k2, k3⟩ := a4.frm F1.fx (by omega)
        refine ⟨fa, fb, k1, k2, fun j kd a' hj hk ha' => ?_⟩
        rw [hdf]
        by_cases c1 : j = i
        · rw [if_pos c1]
          subst c1
          have k := k3 j kd a' hj hk ha'
          rw [df_in hi] at k
          unfold hset
          split <;> exact k
        · rw [if_neg c1]
          exact k3 j kd a' hj hk ha'
      · obtain ⟨fa, fb, fc, k1, k2, k3, k4⟩ := a7.frm F1.fx (by omega)
        refine ⟨fa, fb, fc, k1, k2, k3, fun j hj => ?_⟩
        rw [hdf]
        by_cases c1 : j = i
        · rw [if_pos c1]
          subst c1
          have k := k4 j hj
          rw [df_in hi] at k
          unfold hset
          split <;> exact k
        · rw [if_neg c1]
          exact k4 j hj
    · simp only [u_95_0, u_95_0n, u_95_1, u_95_2, u_95_5, u_95_8, u_95_9, u_95_10, u_95_11, u_95_12, u_95_15, u_95_18, u_95_19, u_95_19_0, u_95_19_1, pm_O_some, pm_w_nil, pm_w_i, pm_w_l, pm_w_r, pm_w_n, pm_c_n, pm_c_i, pm_c_l, pm_c_r, pm_c_u, Nat.reduceAdd, Nat.reduceLeDiff, true_and, Option.toList_some, Option.toList_none, List.cons_append, List.nil_append, c.io, s_isB c hn, s_in, wl (a := 0) (b := 1) (p := 0) (q := 1) rfl rfl, one0, ite_not, if_pos h1, if_neg h2]
      exact hb (fun z => h2 (hax.mpr z.2))
  · simp only [u_95_0, u_95_0n, u_95_1, u_95_2, u_95_5, u_95_8, u_95_9, u_95_10, u_95_11, u_95_12, u_95_15, u_95_18, u_95_19, u_95_19_0, u_95_19_1, pm_O_some, pm_w_nil, pm_w_i, pm_w_l, pm_w_r, pm_w_n, pm_c_n, pm_c_i, pm_c_l, pm_c_r, pm_c_u, Nat.reduceAdd, Nat.reduceLeDiff, true_and, Option.toList_some, Option.toList_none, List.cons_append, List.nil_append, c.io, s_isB c hn, one0, ite_not, if_neg h1]
    exact hb (fun z => h1 z.1)
theorem r_value {kd ab be : Int32} (so : SO n bs ln tx nr sz tm nd dy nl lm ll jk) (n1 : MI B h m n bs ln tx nr sz tm nd dy nl lm ll jk) (hg : vb n b ∧ (0 ≤ kd.toInt ∧ kd.toInt ≤ 7) ∧ (0 ≤ ax.toInt ∧ ax.toInt ≤ 2) ∧ (-1000000 ≤ ab.toInt ∧ ab.toInt ≤ 1000000) ∧ (1 ≤ be.toInt ∧ be.toInt ≤ 1000) → ∀ h', MI B h' m n (upb bs (ix b) (vset (bs (ix b)) (ix kd) (ix ax) ab.toInt (ix be))) ln tx nr sz tm nd dy nl lm ll jk → Frm B h h' m (m + 24) → Q (some (.int 1)) h')
    (hb : ¬ (vb n b ∧ (0 ≤ kd.toInt ∧ kd.toInt ≤ 7) ∧ (0 ≤ ax.toInt ∧ ax.toInt ≤ 2) ∧ (-1000000 ≤ ab.toInt ∧ ab.toInt ≤ 1000000) ∧ (1 ≤ be.toInt ∧ be.toInt ≤ 1000)) → Q (some (.int 0)) h) :
    PW B X 97 0 [some (.ref m), some (.int kd), some (.int b), some (.int ax), some (.int ab), some (.int be), none] [] h Q := by
  have hn := so.1.1
  obtain ⟨⟨x8, x9, x13, jh, jm, x31, x32, c, cj⟩, a2, a3, ⟨fa, fb, b1, b2, b3⟩, a5, a6, a7, a8, a9, a10, a11, a12, R, a13⟩ := n1
  by_cases h0 : ¬ (0 ≤ kd.toInt ∧ kd.toInt ≤ 7)
  · simp only [u_97_0, u_97_1, u_97_2, u_97_3, u_97_6, u_97_9, u_97_60, u_97_61, u_97_61_0, u_97_61_1, pm_O_some, pm_w_nil, pm_w_i, pm_w_l, pm_w_r, pm_w_n, pm_c_n, pm_c_i, pm_c_l, pm_c_r, pm_c_u, Nat.reduceAdd, Nat.reduceLeDiff, true_and, Option.toList_some, Option.toList_none, List.cons_append, List.nil_append, s_in, wl (a := 0) (b := 7) (p := 0) (q := 7) rfl rfl, one0, ite_not, if_neg h0]
    exact hb (fun z => h0 z.2.1)
  replace h0 := Decidable.not_not.mp h0
  by_cases h1 : ¬ (0 ≤ b.toInt ∧ b.toInt < (n : Int))
  · simp only [u_97_0, u_97_1, u_97_2, u_97_3, u_97_6, u_97_9, u_97_12, u_97_12n, u_97_13, u_97_14, u_97_17, u_97_60, u_97_61, u_97_61_0, u_97_61_1, pm_O_some, pm_w_nil, pm_w_i, pm_w_l, pm_w_r, pm_w_n, pm_c_n, pm_c_i, pm_c_l, pm_c_r, pm_c_u, Nat.reduceAdd, Nat.reduceLeDiff, true_and, Option.toList_some, Option.toList_none, List.cons_append, List.nil_append, c.io, s_isB c hn, s_in, wl (a := 0) (b := 7) (p := 0) (q := 7) rfl rfl, one0, ite_not, if_pos h0, if_neg h1]
    exact hb (fun z => h1 z.1)
  replace h1 := Decidable.not_not.mp h1
  by_cases h2 : ¬ (0 ≤ ax.toInt ∧ ax.toInt ≤ 2)
  · simp only [u_97_0, u_97_1, u_97_2, u_97_3, u_97_6, u_97_9, u_97_12, u_97_12n, u_97_13, u_97_14, u_97_17, u_97_20, u_97_21, u_97_22, u_97_23, u_97_26, u_97_29, u_97_60, u_97_61, u_97_61_0, u_97_61_1, pm_O_some, pm_w_nil, pm_w_i, pm_w_l, pm_w_r, pm_w_n, pm_c_n, pm_c_i, pm_c_l, pm_c_r, pm_c_u, Nat.reduceAdd, Nat.reduceLeDiff, true_and, Option.toList_some, Option.toList_none, List.cons_append, List.nil_append, c.io, s_isB c hn, s_in, wl (a := 0) (b := 7) (p := 0) (q := 7) rfl rfl, wl (a := 0) (b := 2) (p := 0) (q := 2) rfl rfl, one0, ite_not, if_pos h0, if_pos h1, if_neg h2]
    exact hb (fun z => h2 z.2.2.1)
  replace h2 := Decidable.not_not.mp h2
  by_cases h3 : ¬ (-1000000 ≤ ab.toInt ∧ ab.toInt ≤ 1000000)
  · simp only [u_97_0, u_97_1, u_97_2, u_97_3, u_97_6, u_97_9, u_97_12, u_97_12n, u_97_13, u_97_14, u_97_17, u_97_20, u_97_21, u_97_22, u_97_23, u_97_26, u_97_29, u_97_32, u_97_34, u_97_35, u_97_38, u_97_41, u_97_44, u_97_60, u_97_61, u_97_61_0, u_97_61_1, pm_O_some, pm_w_nil, pm_w_i, pm_w_l, pm_w_r, pm_w_n, pm_c_n, pm_c_i, pm_c_l, pm_c_r, pm_c_u, Nat.reduceAdd, Nat.reduceLeDiff, true_and, Option.toList_some, Option.toList_none, List.cons_append, List.nil_append, c.io, s_isB c hn, s_in, wl (a := 0) (b := 7) (p := 0) (q := 7) rfl rfl, wl (a := 0) (b := 2) (p := 0) (q := 2) rfl rfl, wl (a := -1000000) (b := 1000000) (p := -1000000) (q := 1000000) rfl rfl, one0, ite_not, if_pos h0, if_pos h1, if_pos h2, if_neg h3]
    exact hb (fun z => h3 z.2.2.2.1)
  replace h3 := Decidable.not_not.mp h3
  by_cases h4 : ¬ (1 ≤ be.toInt ∧ be.toInt ≤ 1000)
  · simp only [u_97_0, u_97_1, u_97_2, u_97_3, u_97_6, u_97_9, u_97_12, u_97_12n, u_97_13, u_97_14, u_97_17, u_97_20, u_97_21, u_97_22, u_97_23, u_97_26, u_97_29, u_97_32, u_97_34, u_97_35, u_97_38, u_97_41, u_97_44, u_97_47, u_97_49, u_97_50, u_97_51, u_97_54, u_97_57, u_97_60, u_97_61, u_97_61_0, u_97_61_1, pm_O_some, pm_w_nil, pm_w_i, pm_w_l, pm_w_r, pm_w_n, pm_c_n, pm_c_i, pm_c_l, pm_c_r, pm_c_u, Nat.reduceAdd, Nat.reduceLeDiff, true_and, Option.toList_some, Option.toList_none, List.cons_append, List.nil_append, c.io, s_isB c hn, s_in, wl (a := 0) (b := 7) (p := 0) (q := 7) rfl rfl, wl (a := 0) (b := 2) (p := 0) (q := 2) rfl rfl, wl (a := -1000000) (b := 1000000) (p := -1000000) (q := 1000000) rfl rfl, wl (a := 1) (b := 1000) (p := 1) (q := 1000) rfl rfl, one0, ite_not, if_pos h0, if_pos h1, if_pos h2, if_pos h3, if_neg h4]
    exact hb (fun z => h4 z.2.2.2.2)
  replace h4 := Decidable.not_not.mp h4
  have hg2 := hg ⟨h1, h0, h2, h3, h4⟩
  obtain ⟨i, hi, hbi, hxi⟩ := vb_e hn h1
  obtain ⟨k, hk, hki, hxk⟩ := vb_e (n := 8) (b := kd) (by omega) (by omega)
  obtain ⟨a, ha, hai, hxa⟩ := vb_e (n := 3) (b := ax) (by omega) (by omega)
  rw [hxi, hxk, hxa] at hg2
  have ex : (3 : Int32) * (10 * kd + b) + ax = nI (3 * (10 * k + i) + a) := by
    rw [hki, hbi, hai, show (10 : Int32) = nI 10 from rfl, show (3 : Int32) = nI 3 from rfl, nI_mul, nI_add, nI_mul, nI_add]
  have hlt : 3 * (10 * k + i) + a < 240 := by omega
  simp only [u_97_0, u_97_1, u_97_2, u_97_3, u_97_6, u_97_9, u_97_12, u_97_12n, u_97_13, u_97_14, u_97_17, u_97_20, u_97_21, u_97_22, u_97_23, u_97_26, u_97_29, u_97_32, u_97_34, u_97_35, u_97_38, u_97_41, u_97_44, u_97_47, u_97_49, u_97_50, u_97_51, u_97_54, u_97_57, u_97_60, u_97_61, u_97_61_0, u_97_61_1, u_97_62, u_97_63, u_97_65, u_97_66, u_97_67, u_97_68, u_97_69, u_97_70, u_97_71, u_97_72, u_97_74, u_97_74n, u_97_75, u_97_78, u_97_80, u_97_82, pm_O_some, pm_w_nil, pm_w_i, pm_w_l, pm_w_r, pm_w_n, pm_c_n, pm_c_i, pm_c_l, pm_c_r, pm_c_u, Nat.reduceAdd, Nat.reduceLeDiff, true_and, Option.toList_some, Option.toList_none, List.cons_append, List.nil_append, c.io, s_isB c hn, s_in, wl (a := 0) (b := 7) (p := 0) (q := 7) rfl rfl, wl (a := 0) (b := 2) (p := 0) (q := 2) rfl rfl, wl (a := -1000000) (b := 1000000) (p := -1000000) (q := 1000000) rfl rfl, wl (a := 1) (b := 1000) (p := 1) (q := 1000) rfl rfl, one0, ite_not, if_pos h0, if_pos h1, if_pos h2, if_pos h3, if_pos h4, c.g4, b1, ex, st_i (t := 0) (ix_240 hlt) rfl, nI_clamp (show 3 * (10 * k + i) + a < 2 ^ 31 by omega), ty_0]
  have F1 := Frm.set (e := .inl (0, 240, .inl (upd fa (3 * (10 * k + i) + a) ab))) b1 rfl
  have c1 := c.frm F1 (by omega)
  have d2 := (F1.2.2 (m + 5) (by omega)).trans b2
  simp only [u_97_83, u_97_83n, u_97_84, u_97_87, u_97_89, u_97_91, u_97_92, u_97_93, u_97_93_0, u_97_93_1, pm_O_some, pm_w_nil, pm_w_i, pm_w_l, pm_w_r, pm_w_n, pm_c_n, pm_c_i, pm_c_l, pm_c_r, pm_c_u, Nat.reduceAdd, Nat.reduceLeDiff, true_and, Option.toList_some, Option.toList_none, List.cons_append, List.nil_append, c1.g5, d2, st_i (t := 0) (ix_240 hlt) rfl, nI_clamp (show 3 * (10 * k + i) + a < 2 ^ 31 by omega), ty_0]
  have F2 := Frm.set (e := .inl (0, 240, .inl (upd fb (3 * (10 * k + i) + a) be))) d2 rfl
  have G : Frm B h _ (m + 4) (m + 6) := (F1.mono (by omega) (by omega)).trans (F2.mono (by omega) (by omega))
  have hdf : ∀ j, df n (upb bs i (vset (bs i) k a ab.toInt (ix be))) j = if j = i then vset (bs i) k a ab.toInt (ix be) else df n bs j := fun j => df_up hi
  have hbe : be = nI (ix be) := nI_ix (by omega)
  refine hg2 _ ⟨⟨x8, x9, x13, jh, jm, x31, x32, c.frm G (by omega), cj⟩, ?_, ?_, ⟨_, _, (F2.2.2 _ (by omega)).trans (pm_at_self (pm_v_at b1)), pm_at_self (pm_v_at d2), fun j kd' a' hj hk' ha' => ?_⟩, a5.frm G.fx (by omega), a6.frm G.fx (by omega), ?_, a8.frm G.fx (by omega), a9.frm G.fx (by omega), a10.frm G.fx (by omega), a11.frm G.fx (by omega), a12.frm G.fx (by omega), R, a13.fx G.fx (by omega)⟩ (G.mono (by omega) (by omega))
  · obtain ⟨fx, fy, k1, k2, k3⟩ := a2.frm G.fx (by omega)
    refine ⟨fx, fy, k1, k2, fun j hj => ?_⟩
    unfold upb
    by_cases c1 : j = i
    · rw [if_pos c1]
      subst c1
      exact k3 j hj
    · rw [if_neg c1]
      exact k3 j hj
  · obtain ⟨fh, k1, k2⟩ := a3.frm G.fx (by omega)
    refine ⟨fh, k1, fun j hj => ?_⟩
    rw [hdf]
    by_cases c1 : j = i
    · rw [if_pos c1]
      subst c1
      have k := k2 j hj
      rw [df_in hi] at k
      exact k
    · rw [if_neg c1]
      exact k2 j hj
  · rw [hdf]
    have kk := b3 j kd' a' hj hk' ha'
    by_cases c1 : j = i
    · rw [if_pos c1]
      subst c1
      rw [df_in hi] at kk
      unfold vset
      by_cases c2 : kd' = k ∧ a' = a
      · obtain ⟨rfl, rfl⟩ := c2
        rw [upd_s, upd_s]
        simp only [and_self, if_true]
        exact ⟨trivial, hbe⟩
      · rw [upd_n (by omega), upd_n (by omega)]
        simp only [c2, if_false]
        exact kk
    · rw [if_neg c1, upd_n (by omega), upd_n (by omega)]
      exact kk
  · obtain ⟨fa, fb, fc, k1, k2, k3, k4⟩ := a7.frm G.fx (by omega)
    refine ⟨fa, fb, fc, k1, k2, k3, fun j hj => ?_⟩
    rw [hdf]
    by_cases c1 : j = i
    · rw [if_pos c1]
      subst c1
      have k := k4 j hj
      rw [df_in hi] at k
      exact k
    · rw [if_neg c1]
      exact k4 j hj
theorem r_joint {l p w : Int32} (so : SO n bs ln tx nr sz tm nd dy nl lm ll jk) (n1 : MI B h m n bs ln tx nr sz tm nd dy nl lm ll jk) (hg : vb n b ∧ (0 ≤ l.toInt ∧ l.toInt ≤ 1000000) ∧ (-10000 ≤ p.toInt ∧ p.toInt ≤ 10000) ∧ (-600 ≤ w.toInt ∧ w.toInt ≤ 900) → ∀ h', MI B h' m n (upb bs (ix b) (jset (bs (ix b)) l p w)) ln tx nr sz tm nd dy nl lm ll jk → Frm B h h' m (m + 24) → Q (some (.int 1)) h')
    (hb : ¬ (vb n b ∧ (0 ≤ l.toInt ∧ l.toInt ≤ 1000000) ∧ (-10000 ≤ p.toInt ∧ p.toInt ≤ 10000) ∧ (-600 ≤ w.toInt ∧ w.toInt ≤ 900)) → Q (some (.int 0)) h) :
    PW B X 132 0 [some (.ref m), some (.int b), some (.int l), some (.int p), some (.int w)] [] h Q := by
  have hn := so.1.1
  obtain ⟨⟨x8, x9, x13, jh, jm, x31, x32, c, cj⟩, a2, a3, a4, a5, a6, ⟨fl, fg, fw, b1, b2, b3, b4⟩, a8, a9, a10, a11, a12, R, a13⟩ := n1
  by_cases h1 : ¬ (0 ≤ b.toInt ∧ b.toInt < (n : Int))
  · simp only [u_132_0, u_132_0n, u_132_1, u_132_2, u_132_5, u_132_49, u_132_50, u_132_50_0, u_132_50_1, pm_O_some, pm_w_nil, pm_w_i, pm_w_l, pm_w_r, pm_w_n, pm_c_n, pm_c_i, pm_c_l, pm_c_r, pm_c_u, Nat.reduceAdd, Nat.reduceLeDiff, true_and, Option.toList_some, Option.toList_none, List.cons_append, List.nil_append, c.io, s_isB c hn, one0, ite_not, if_neg h1]
    exact hb (fun z => h1 z.1)
  replace h1 := Decidable.not_not.mp h1
  by_cases h2 : ¬ (0 ≤ l.toInt ∧ l.toInt ≤ 1000000)
  · simp only [u_132_0, u_132_0n, u_132_1, u_132_2, u_132_5, u_132_8, u_132_9, u_132_10, u_132_11, u_132_14, u_132_17, u_132_49, u_132_50, u_132_50_0, u_132_50_1, pm_O_some, pm_w_nil, pm_w_i, pm_w_l, pm_w_r, pm_w_n, pm_c_n, pm_c_i, pm_c_l, pm_c_r, pm_c_u, Nat.reduceAdd, Nat.reduceLeDiff, true_and, Option.toList_some, Option.toList_none, List.cons_append, List.nil_append, c.io, s_isB c hn, s_in, wl (a := 0) (b := 1000000) (p := 0) (q := 1000000) rfl rfl, one0, ite_not, if_pos h1, if_neg h2]
    exact hb (fun z => h2 z.2.1)
  replace h2 := Decidable.not_not.mp h2
  by_cases h3 : ¬ (-10000 ≤ p.toInt ∧ p.toInt ≤ 10000)
  · simp only [u_132_0, u_132_0n, u_132_1, u_132_2, u_132_5, u_132_8, u_132_9, u_132_10, u_132_11, u_132_14, u_132_17, u_132_20, u_132_21, u_132_22, u_132_25, u_132_28, u_132_31, u_132_49, u_132_50, u_132_50_0, u_132_50_1, pm_O_some, pm_w_nil, pm_w_i, pm_w_l, pm_w_r, pm_w_n, pm_c_n, pm_c_i, pm_c_l, pm_c_r, pm_c_u, Nat.reduceAdd, Nat.reduceLeDiff, true_and, Option.toList_some, Option.toList_none, List.cons_append, List.nil_append, c.io, s_isB c hn, s_in, wl (a := 0) (b := 1000000) (p := 0) (q := 1000000) rfl rfl, wl (a := -10000) (b := 10000) (p := -10000) (q := 10000) rfl rfl, one0, ite_not, if_pos h1, if_pos h2, if_neg h3]
    exact hb (fun z => h3 z.2.2.1)
  replace h3 := Decidable.not_not.mp h3
  by_cases h4 : ¬ (-600 ≤ w.toInt ∧ w.toInt ≤ 900)
  · simp only [u_132_0, u_132_0n, u_132_1, u_132_2, u_132_5, u_132_8, u_132_9, u_132_10, u_132_11, u_132_14, u_132_17, u_132_20, u_132_21, u_132_22, u_132_25, u_132_28, u_132_31, u_132_34, u_132_36, u_132_37, u_132_40, u_132_43, u_132_46, u_132_49, u_132_50, u_132_50_0, u_132_50_1, pm_O_some, pm_w_nil, pm_w_i, pm_w_l, pm_w_r, pm_w_n, pm_c_n, pm_c_i, pm_c_l, pm_c_r, pm_c_u, Nat.reduceAdd, Nat.reduceLeDiff, true_and, Option.toList_some, Option.toList_none, List.cons_append, List.nil_append, c.io, s_isB c hn, s_in, wl (a := 0) (b := 1000000) (p := 0) (q := 1000000) rfl rfl, wl (a := -10000) (b := 10000) (p := -10000) (q := 10000) rfl rfl, wl (a := -600) (b := 900) (p := -600) (q := 900) rfl rfl, one0, ite_not, if_pos h1, if_pos h2, if_pos h3, if_neg h4]
    exact hb (fun z => h4 z.2.2.2)
  replace h4 := Decidable.not_not.mp h4
  have hg2 := hg ⟨h1, h2, h3, h4⟩
  obtain ⟨i, hi, hbi, hxi⟩ := vb_e hn h1
  rw [hxi] at hg2
  simp only [u_132_0, u_132_0n, u_132_1, u_132_2, u_132_5, u_132_8, u_132_9, u_132_10, u_132_11, u_132_14, u_132_17, u_132_20, u_132_21, u_132_22, u_132_25, u_132_28, u_132_31, u_132_34, u_132_36, u_132_37, u_132_40, u_132_43, u_132_46, u_132_49, u_132_50, u_132_50_0, u_132_50_1, u_132_51, u_132_51n, u_132_52, u_132_55, u_132_56, u_132_57, pm_O_some, pm_w_nil, pm_w_i, pm_w_l, pm_w_r, pm_w_n, pm_c_n, pm_c_i, pm_c_l, pm_c_r, pm_c_u, Nat.reduceAdd, Nat.reduceLeDiff, true_and, Option.toList_some, Option.toList_none, List.cons_append, List.nil_append, c.io, s_isB c hn, s_in, wl (a := 0) (b := 1000000) (p := 0) (q := 1000000) rfl rfl, wl (a := -10000) (b := 10000) (p := -10000) (q := 10000) rfl rfl, wl (a := -600) (b := 900) (p := -600) (q := 900) rfl rfl, one0, ite_not, if_pos h1, if_pos h2, if_pos h3, if_pos h4, c.g16, b1]
  simp only [hbi, pm_O_some, pm_w_nil, pm_w_i, pm_w_l, pm_w_r, pm_w_n, pm_c_n, pm_c_i, pm_c_l, pm_c_r, pm_c_u, Nat.reduceAdd, Nat.reduceLeDiff, true_and, Option.toList_some, Option.toList_none, List.cons_append, List.nil_append, st_i (t := 0) (ix_10 (show i < 10 by omega)) rfl, nI_clamp (show i < 2 ^ 31 by omega), ty_0]
  have F1 := Frm.set (e := .inl (0, 10, .inl (upd fl i l))) b1 rfl
  have c1 := c.frm F1 (by omega)
  have d2 := (F1.2.2 (m + 12) (by omega)).trans b2
  simp only [u_132_58, u_132_58n, u_132_59, u_132_62, u_132_63, u_132_64, pm_O_some, pm_w_nil, pm_w_i, pm_w_l, pm_w_r, pm_w_n, pm_c_n, pm_c_i, pm_c_l, pm_c_r, pm_c_u, Nat.reduceAdd, Nat.reduceLeDiff, true_and, Option.toList_some, Option.toList_none, List.cons_append, List.nil_append, c1.g17, d2, st_i (t := 0) (ix_10 (show i < 10 by omega)) rfl, nI_clamp (show i < 2 ^ 31 by omega), ty_0]
  have F2 := Frm.set (e := .inl (0, 10, .inl (upd fg i p))) d2 rfl
  have c2 := c1.frm F2 (by omega)
  have d3 := (F2.2.2 (m + 13) (by omega)).trans ((F1.2.2 (m + 13) (by omega)).trans b3)
  simp only [u_132_65, u_132_65n, u_132_66, u_132_69, u_132_70, u_132_72, u_132_73, u_132_74, u_132_74_0, u_132_74_1, pm_O_some, pm_w_nil, pm_w_i, pm_w_l, pm_w_r, pm_w_n, pm_c_n, pm_c_i, pm_c_l, pm_c_r, pm_c_u, Nat.reduceAdd, Nat.reduceLeDiff, true_and, Option.toList_some, Option.toList_none, List.cons_append, List.nil_append, c2.g18, d3, st_i (t := 0) (ix_10 (show i < 10 by omega)) rfl, nI_clamp (show i < 2 ^ 31 by omega), ty_0]
  have F3 := Frm.set (e := .inl (0, 10, .inl (upd fw i w))) d3 rfl
  have G : Frm B h _ (m + 11) (m + 14) := ((F1.mono (by omega) (by omega)).trans (F2.mono (by omega) (by omega))).trans (F3.mono (by omega) (by omega))
  have hdf : ∀ j, df n (upb bs i (jset (bs i) l p w)) j = if j = i then jset (bs i) l p w else df n bs j := fun j => df_up hi
  refine hg2 _ ⟨⟨x8, x9, x13, jh, jm, x31, x32, c.frm G (by omega), cj⟩, ?_, ?_, ?_, a5.frm G.fx (by omega), a6.frm G.fx (by omega), ⟨_, _, _, (F3.2.2 _ (by omega)).trans ((F2.2.2 _ (by omega)).trans (pm_at_self (pm_v_at b1))), (F3.2.2 _ (by omega)).trans (pm_at_self (pm_v_at d2)), pm_at_self (pm_v_at d3), fun j hj => ?_⟩, a8.frm G.fx (by omega), a9.frm G.fx (by omega), a10.frm G.fx (by omega), a11.frm G.fx (by omega), a12.frm G.fx (by omega), R, a13.fx G.fx (by omega)⟩ (G.mono (by omega) (by omega))
  · obtain ⟨fx, fy, k1, k2, k3⟩ := a2.frm G.fx (by omega)
    refine ⟨fx, fy, k1, k2, fun j hj => ?_⟩
    unfold upb
    by_cases c1 : j = i
    · rw [if_pos c1]
      subst c1
      exact k3 j hj
    · rw [if_neg c1]
      exact k3 j hj
  · obtain ⟨fh, k1, k2⟩ := a3.frm G.fx (by omega)
    refine ⟨fh, k1, fun j hj => ?_⟩
    rw [hdf]
    by_cases c1 : j = i
    · rw [if_pos c1]
      subst c1
      have k := k2 j hj
      rw [df_in hi] at k
      exact k
    · rw [if_neg c1]
      exact k2 j hj
  · obtain ⟨fa, fb, k1, k2, k3⟩ := a4.frm G.fx (by omega)
    refine ⟨fa, fb, k1, k2, fun j kd a' hj hk ha' => ?_⟩
    rw [hdf]
    by_cases c1 : j = i
    · rw [if_pos c1]
      subst c1
      have k := k3 j kd a' hj hk ha'
      rw [df_in hi] at k
      exact k
    · rw [if_neg c1]
      exact k3 j kd a' hj hk ha'
  · rw [hdf]
    by_cases c1 : j = i
    · rw [if_pos c1]
      subst c1
      rw [upd_s, upd_s, upd_s]
      exact ⟨rfl, rfl, rfl⟩
    · rw [if_neg c1, upd_n c1, upd_n c1, upd_n c1]
      exact b4 j hj
end RSS

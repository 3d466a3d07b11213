/-! day, jack, raised, count. -/
def hcn (bs : Nat → Bg) : Nat → Nat
  | 0 => 0
  | k + 1 => hcn bs k + ((if (bs k).2.2.1 = 0 then 0 else 1) + (if (bs k).2.2.2.1 = 0 then 0 else 1))
theorem hcn_le {bs : Nat → Bg} : ∀ {k : Nat}, hcn bs k ≤ 2 * k
  | 0 => Nat.le_refl _
  | k + 1 => by
    have := hcn_le (bs := bs) (k := k)
    rw [hcn]
    split <;> split <;> omega
theorem su_le {sz : Nat → Nat} : ∀ {k : Nat}, (∀ i, i < k → sz i ≤ 6) → su sz k ≤ 6 * k
  | 0, _ => Nat.le_refl _
  | k + 1, h => by
    have := su_le (sz := sz) (k := k) (fun i hi => h i (by omega))
    have := h k (by omega)
    rw [su]
    omega
/-- what raised answers -/
def rsd (n a b st bb : Nat) : Nat := if a < (st / n + if bb < st % n then 1 else 0) * b then a else (st / n + if bb < st % n then 1 else 0) * b
/-- what count answers -/
def cnt (n : Nat) (bs : Nat → Bg) (ln nr : Nat) (sz : Nat → Nat) (nd nl : Nat) (w : Int32) : Int32 :=
  if w = 0 then nI n else if w = 1 then nI nr else if w = 2 then nI (su sz nr) else if w = 3 then nI nd else if w = 4 then nI nl else if w = 5 then nI (hcn bs n) else if w = 6 then nI ln else -1
section SE3
variable {B : Nat} {X : pm_X} {h h' h2 : pm_H} {Q : Option Value → pm_H → Prop} {e lo hi n ln nr nd nl i : Nat} {bs : Nat → Bg} {tx sz lm ll : Nat → Nat} {tm : Nat → Nat → Tm} {dy : Nat → Int} {jk : Option (Nat × Nat)} {g : Bg} {b x y z ax w : Int32}
theorem c_day (n1 : CC B h n bs ln tx nr sz tm nd dy nl lm ll jk) (hg : (-600 ≤ w.toInt ∧ w.toInt ≤ 900) ∧ nd < 400 → ∀ h', CC B h' n bs ln tx nr sz tm (nd + 1) (ups dy nd w.toInt) nl lm ll jk → Kp B h h' → Q (some (.int (nI (nd + 1)))) h') (hb : ¬ ((-600 ≤ w.toInt ∧ w.toInt ≤ 900) ∧ nd < 400) → Q (some (.int (-1))) h) :
    PW B X 77 0 [some (.ref B), some (.int w)] [] h Q := by
  obtain ⟨⟨rs, rs2, lw, jh, jm, ra, a1, a2, a3, a4, a5, a6, a7, ⟨a8, a9, a10⟩, a11⟩, n2⟩ := n1
  have w1 : (B + 5 ≤ rs ∧ rs ≤ B + 11) ∧ (B + 5 ≤ rs2 ∧ rs2 ≤ B + 11) := by rcases a2 with ⟨z1, z2⟩ | ⟨z1, z2⟩ <;> omega
  by_cases h1 : -600 ≤ w.toInt ∧ w.toInt ≤ 900
  · by_cases h2 : nd < 400
    · have e1 : nI nd < 400 := nI_lt (b := 400) h2 (by decide)
      have hg2 := hg ⟨h1, h2⟩
      have key : ∀ hc ww, pm_at B hc B = some (.inr (0, [.ref (B + 1), .int (nI n), .ref (B + 2), .ref (B + 3), .ref rs, .ref rs2, .ref (B + 17), .ref (B + 22), .ref (B + 48), .ref (B + 53), .int (nI nd), .int lw, .long (lN ww), .ref (B + 69), .ref (B + 70), .int (nI nl), .int jh, .int jm, .int ra])) → Frm B h hc B (B + 1) → ww = wy (ups dy nd w.toInt) (nd + 1) → PW B X 77 45 [some (.ref B), some (.int w)] [] hc Q := by
        intro hc ww t0 F hww
        simp only [u_77_45, u_77_45n, u_77_46, u_77_47, pm_O_some, pm_w_nil, pm_w_i, pm_w_l, pm_w_r, pm_w_n, pm_c_n, pm_c_i, pm_c_l, pm_c_r, pm_c_u, Nat.reduceAdd, Nat.reduceLeDiff, true_and, Option.toList_some, Option.toList_none, List.cons_append, List.nil_append, t0, pf_0_11]
        have G := Frm.set (e := .inr (0, [.ref (B + 1), .int (nI n), .ref (B + 2), .ref (B + 3), .ref rs, .ref rs2, .ref (B + 17), .ref (B + 22), .ref (B + 48), .ref (B + 53), .int (nI nd), .int w, .long (lN ww), .ref (B + 69), .ref (B + 70), .int (nI nl), .int jh, .int jm, .int ra])) t0 rfl
        have s0 := pm_at_self (e := .inr (0, [.ref (B + 1), .int (nI n), .ref (B + 2), .ref (B + 3), .ref rs, .ref rs2, .ref (B + 17), .ref (B + 22), .ref (B + 48), .ref (B + 53), .int (nI nd), .int w, .long (lN ww), .ref (B + 69), .ref (B + 70), .int (nI nl), .int jh, .int jm, .int ra])) (pm_v_at t0)
        generalize pm_set B hc B (.inr (0, [.ref (B + 1), .int (nI n), .ref (B + 2), .ref (B + 3), .ref rs, .ref rs2, .ref (B + 17), .ref (B + 22), .ref (B + 48), .ref (B + 53), .int (nI nd), .int w, .long (lN ww), .ref (B + 69), .ref (B + 70), .int (nI nl), .int jh, .int jm, .int ra])) = hd at G s0 ⊢
        simp only [u_77_50, u_77_50n, u_77_51, u_77_51i, u_77_52, u_77_55, u_77_56, u_77_57, pm_O_some, pm_w_nil, pm_w_i, pm_w_l, pm_w_r, pm_w_n, pm_c_n, pm_c_i, pm_c_l, pm_c_r, pm_c_u, Nat.reduceAdd, Nat.reduceLeDiff, true_and, Option.toList_some, Option.toList_none, List.cons_append, List.nil_append, s0, gf_0_10, pf_0_10, nI_1]
        have H := Frm.set (e := .inr (0, [.ref (B + 1), .int (nI n), .ref (B + 2), .ref (B + 3), .ref rs, .ref rs2, .ref (B + 17), .ref (B + 22), .ref (B + 48), .ref (B + 53), .int (nI (nd + 1)), .int w, .long (lN ww), .ref (B + 69), .ref (B + 70), .int (nI nl), .int jh, .int jm, .int ra])) s0 rfl
        have r0 := pm_at_self (e := .inr (0, [.ref (B + 1), .int (nI n), .ref (B + 2), .ref (B + 3), .ref rs, .ref rs2, .ref (B + 17), .ref (B + 22), .ref (B + 48), .ref (B + 53), .int (nI (nd + 1)), .int w, .long (lN ww), .ref (B + 69), .ref (B + 70), .int (nI nl), .int jh, .int jm, .int ra])) (pm_v_at s0)
        generalize pm_set B hd B (.inr (0, [.ref (B + 1), .int (nI n), .ref (B + 2), .ref (B + 3), .ref rs, .ref rs2, .ref (B + 17), .ref (B + 22), .ref (B + 48), .ref (B + 53), .int (nI (nd + 1)), .int w, .long (lN ww), .ref (B + 69), .ref (B + 70), .int (nI nl), .int jh, .int jm, .int ra])) = he at H r0 ⊢
        simp only [u_77_60, u_77_60n, u_77_61, u_77_64, pm_O_some, pm_w_nil, pm_w_i, pm_w_l, pm_w_r, pm_w_n, pm_c_n, pm_c_i, pm_c_l, pm_c_r, pm_c_u, Nat.reduceAdd, Nat.reduceLeDiff, true_and, Option.toList_some, Option.toList_none, List.cons_append, List.nil_append, r0, gf_0_10]
        have FG := (F.trans G).trans H
        obtain ⟨c3, c4, c5, c6, c7, c8⟩ := ob_frm FG w1 a3 a4 a5 a6 a7 n2
        subst hww
        refine hg2 he ⟨⟨rs, rs2, w, jh, jm, ra, r0, a2, c3, c4, c5, c6, c7, ⟨by omega, fun i hi => ?_, fun _ => ups_s.symm⟩, a11⟩, c8⟩ (Kp.of FG (by omega))
        by_cases hi2 : i = nd
        · subst hi2
          rw [ups_s]
          exact h1
        · rw [ups_n hi2]
          exact a9 i (by omega)
      rcases Nat.eq_zero_or_pos nd with z | z
      · subst z
        have e2 : nI 0 ≤ 0 := by decide
        simp only [u_77_0, u_77_1, u_77_4, u_77_7, u_77_7n, u_77_8, u_77_11, u_77_14, u_77_17, u_77_18, u_77_19, u_77_19n, u_77_20, u_77_23, pm_O_some, pm_w_nil, pm_w_i, pm_w_l, pm_w_r, pm_w_n, pm_c_n, pm_c_i, pm_c_l, pm_c_r, pm_c_u, Nat.reduceAdd, Nat.reduceLeDiff, true_and, Option.toList_some, Option.toList_none, List.cons_append, List.nil_append, s_warm, w_warm, one0, ite_not, if_pos h1, a1, gf_0_10, if_pos e1, if_pos e2]
        exact key h _ a1 Frm.rfl' rfl
      · obtain ⟨k, rfl⟩ : ∃ k, nd = k + 1 := ⟨nd - 1, by omega⟩
        have e2 : ¬ nI (k + 1) ≤ 0 := nI_nle z (by omega)
        have hlw : lw.toInt = dy k := a10 z
        have hk := a9 k (by omega)
        have hd : (w - lw).toInt = w.toInt - dy k := by rw [i_sub (by omega) (by omega), hlw]
        have hab : (if 0 ≤ w - lw then w - lw else 0 - (w - lw)) = nI (w.toInt - dy k).natAbs := by rw [i_abs (by omega), hd]
        have hsum : lN (wy dy (k + 1)) + (nI (w.toInt - dy k).natAbs).toInt64 = lN (wy (ups dy (k + 1) w.toInt) (k + 2)) := by
          rw [nI_l (by omega), wy_up]
          exact (Int64.ofNat_add _ _).symm
        simp only [u_77_0, u_77_1, u_77_4, u_77_7, u_77_7n, u_77_8, u_77_11, u_77_14, u_77_17, u_77_18, u_77_19, u_77_19n, u_77_20, u_77_23, u_77_26, u_77_26n, u_77_27, u_77_27i, u_77_28, u_77_31, u_77_32, u_77_32n, u_77_33, u_77_36, u_77_37, u_77_40, u_77_41, u_77_42, pm_O_some, pm_w_nil, pm_w_i, pm_w_l, pm_w_r, pm_w_n, pm_c_n, pm_c_i, pm_c_l, pm_c_r, pm_c_u, Nat.reduceAdd, Nat.reduceLeDiff, true_and, Option.toList_some, Option.toList_none, List.cons_append, List.nil_append, s_warm, w_warm, one0, ite_not, if_pos h1, a1, gf_0_10, gf_0_11, gf_0_12, pf_0_12, if_pos e1, if_neg e2, hab, hsum]
        exact key _ _ (pm_at_self (pm_v_at a1)) (Frm.set a1 rfl) rfl
    · have e1 : ¬ nI nd < 400 := nI_nlt (b := 400) (by omega) (by omega)
      simp only [u_77_0, u_77_1, u_77_4, u_77_7, u_77_7n, u_77_8, u_77_11, u_77_14, u_77_17, u_77_18, pm_O_some, pm_w_nil, pm_w_i, pm_w_l, pm_w_r, pm_w_n, pm_c_n, pm_c_i, pm_c_l, pm_c_r, pm_c_u, Nat.reduceAdd, Nat.reduceLeDiff, true_and, Option.toList_some, Option.toList_none, List.cons_append, List.nil_append, s_warm, w_warm, one0, ite_not, if_pos h1, a1, gf_0_10, if_neg e1]
      exact hb (fun c => h2 c.2)
  · simp only [u_77_0, u_77_1, u_77_4, u_77_7, u_77_7n, u_77_8, u_77_11, u_77_14, u_77_17, u_77_18, pm_O_some, pm_w_nil, pm_w_i, pm_w_l, pm_w_r, pm_w_n, pm_c_n, pm_c_i, pm_c_l, pm_c_r, pm_c_u, Nat.reduceAdd, Nat.reduceLeDiff, true_and, Option.toList_some, Option.toList_none, List.cons_append, List.nil_append, s_warm, w_warm, one0, ite_not, if_neg h1]
    exact hb (fun c => h1 c.1)
theorem rnd_le {a b n : Nat} (h1 : a ≤ 10000) (h2 : 1 ≤ b) (h3 : b ≤ 10000) (h4 : n ≤ 10) : (a + b - 1) / b * n ≤ 199990 := by
  have t1 : (a + b - 1) / b ≤ a + b - 1 := Nat.div_le_self _ _
  have t2 : (a + b - 1) / b * n ≤ (a + b - 1) * 10 := Nat.mul_le_mul t1 h4
  omega
theorem c_jack {ht mo : Int32} (n1 : CC B h n bs ln tx nr sz tm nd dy nl lm ll jk) (hg : 0 < n ∧ (1 ≤ ht.toInt ∧ ht.toInt ≤ 10000) ∧ (1 ≤ mo.toInt ∧ mo.toInt ≤ 10000) → ∀ h', CC B h' n bs ln tx nr sz tm nd dy nl lm ll (some (ix ht, ix mo)) → Kp B h h' → Q (some (.int (nI ((ix ht + ix mo - 1) / ix mo * n)))) h')
    (hb : ¬ (0 < n ∧ (1 ≤ ht.toInt ∧ ht.toInt ≤ 10000) ∧ (1 ≤ mo.toInt ∧ mo.toInt ≤ 10000)) → Q (some (.int (-1))) h) : PW B X 84 0 [some (.ref B), some (.int ht), some (.int mo), none] [] h Q := by
  obtain ⟨⟨rs, rs2, lw, jh, jm, ra, a1, a2, a3, a4, a5, a6, a7, a8, a9⟩, n2⟩ := n1
  have w1 : (B + 5 ≤ rs ∧ rs ≤ B + 11) ∧ (B + 5 ≤ rs2 ∧ rs2 ≤ B + 11) := by rcases a2 with ⟨z1, z2⟩ | ⟨z1, z2⟩ <;> omega
  have hn := a3.1
  rcases Nat.eq_zero_or_pos n with z | z
  · have e1 : nI n = 0 := by rw [z]; rfl
    simp only [u_84_0, u_84_0n, u_84_1, u_84_4, u_84_7, u_84_8, u_84_9, u_84_12, u_84_15, u_84_18, u_84_19, u_84_20, u_84_23, u_84_26, u_84_29, u_84_30, pm_O_some, pm_w_nil, pm_w_i, pm_w_l, pm_w_r, pm_w_n, pm_c_n, pm_c_i, pm_c_l, pm_c_r, pm_c_u, Nat.reduceAdd, Nat.reduceLeDiff, true_and, Option.toList_some, Option.toList_none, List.cons_append, List.nil_append, a1, gf_0_1, if_pos e1]
    exact hb (fun c => by omega)
  · have e1 : ¬ nI n = 0 := nI_ne0 z (by omega)
    by_cases hV : (1 ≤ ht.toInt ∧ ht.toInt ≤ 10000) ∧ (1 ≤ mo.toInt ∧ mo.toInt ≤ 10000)
    · have hg2 := hg ⟨z, hV⟩
      clear hg
      have k1 := nI_ix (b := ht) (by omega)
      have k2 := ix_T (b := ht) (by omega)
      generalize ix ht = aa at hg2 k1 k2
      have k3 := nI_ix (b := mo) (by omega)
      have k4 := ix_T (b := mo) (by omega)
      generalize ix mo = bb at hg2 k3 k4
      subst k1
      subst k3
      obtain ⟨v1, v2⟩ := hV
      have e5 : nI (aa + bb) - 1 = nI (aa + bb - 1) := by
        obtain ⟨c, hc⟩ : ∃ c, aa + bb = c + 1 := ⟨aa + bb - 1, by omega⟩
        rw [hc, nI_pred]
        rfl
      have e6 : ¬ nI bb = 0 := nI_ne0 (by omega) (by omega)
      simp only [u_84_0, u_84_0n, u_84_1, u_84_4, u_84_7, u_84_8, u_84_9, u_84_12, u_84_15, u_84_18, u_84_19, u_84_20, u_84_23, u_84_26, u_84_29, u_84_30, u_84_31, u_84_31n, u_84_32, u_84_33, pm_O_some, pm_w_nil, pm_w_i, pm_w_l, pm_w_r, pm_w_n, pm_c_n, pm_c_i, pm_c_l, pm_c_r, pm_c_u, Nat.reduceAdd, Nat.reduceLeDiff, true_and, Option.toList_some, Option.toList_none, List.cons_append, List.nil_append, a1, gf_0_1, if_neg e1, s_within, w_high, one0, ite_not, if_pos v1, if_pos v2, pf_0_16]
      have F := Frm.set (e := .inr (0, [.ref (B + 1), .int (nI n), .ref (B + 2), .ref (B + 3), .ref rs, .ref rs2, .ref (B + 17), .ref (B + 22), .ref (B + 48), .ref (B + 53), .int (nI nd), .int lw, .long (lN (wy dy nd)), .ref (B + 69), .ref (B + 70), .int (nI nl), .int (nI aa), .int jm, .int ra])) a1 rfl
      have t0 := pm_at_self (e := .inr (0, [.ref (B + 1), .int (nI n), .ref (B + 2), .ref (B + 3), .ref rs, .ref rs2, .ref (B + 17), .ref (B + 22), .ref (B + 48), .ref (B + 53), .int (nI nd), .int lw, .long (lN (wy dy nd)), .ref (B + 69), .ref (B + 70), .int (nI nl), .int (nI aa), .int jm, .int ra])) (pm_v_at a1)
      generalize pm_set B h B (.inr (0, [.ref (B + 1), .int (nI n), .ref (B + 2), .ref (B + 3), .ref rs, .ref rs2, .ref (B + 17), .ref (B + 22), .ref (B + 48), .ref (B + 53), .int (nI nd), .int lw, .long (lN (wy dy nd)), .ref (B + 69), .ref (B + 70), .int (nI nl), .int (nI aa), .int jm, .int ra])) = hc at F t0 ⊢
      simp only [u_84_36, u_84_36n, u_84_37, u_84_38, pm_O_some, pm_w_nil, pm_w_i, pm_w_l, pm_w_r, pm_w_n, pm_c_n, pm_c_i, pm_c_l, pm_c_r, pm_c_u, Nat.reduceAdd, Nat.reduceLeDiff, true_and, Option.toList_some, Option.toList_none, List.cons_append, List.nil_append, t0, pf_0_17]
      have G := Frm.set (e := .inr (0, [.ref (B + 1), .int (nI n), .ref (B + 2), .ref (B + 3), .ref rs, .ref rs2, .ref (B + 17), .ref (B + 22), .ref (B + 48), .ref (B + 53), .int (nI nd), .int lw, .long (lN (wy dy nd)), .ref (B + 69), .ref (B + 70), .int (nI nl), .int (nI aa), .int (nI bb), .int ra])) t0 rfl
      have s0 := pm_at_self (e := .inr (0, [.ref (B + 1), .int (nI n), .ref (B + 2), .ref (B + 3), .ref rs, .ref rs2, .ref (B + 17), .ref (B + 22), .ref (B + 48), .ref (B + 53), .int (nI nd), .int lw, .long (lN (wy dy nd)), .ref (B + 69), .ref (B + 70), .int (nI nl), .int (nI aa), .int (nI bb), .int ra])) (pm_v_at t0)
      generalize pm_set B hc B (.inr (0, [.ref (B + 1), .int (nI n), .ref (B + 2), .ref (B + 3), .ref rs, .ref rs2, .ref (B + 17), .ref (B + 22), .ref (B + 48), .ref (B + 53), .int (nI nd), .int lw, .long (lN (wy dy nd)), .ref (B + 69), .ref (B + 70), .int (nI nl), .int (nI aa), .int (nI bb), .int ra])) = hd at G s0 ⊢
      simp only [u_84_41, u_84_42, u_84_43, u_84_44, u_84_45, u_84_46, u_84_47, u_84_48, u_84_49, u_84_49n, u_84_50, u_84_51, u_84_51n, u_84_52, u_84_55, u_84_56, pm_O_some, pm_w_nil, pm_w_i, pm_w_l, pm_w_r, pm_w_n, pm_c_n, pm_c_i, pm_c_l, pm_c_r, pm_c_u, Nat.reduceAdd, Nat.reduceLeDiff, true_and, Option.toList_some, Option.toList_none, List.cons_append, List.nil_append, s0, gf_0_1, pf_0_18, nI_add, e5, e6, not_false_eq_true, nI_div (show aa + bb - 1 < 2 ^ 31 by omega) (show 0 < bb by omega) (show bb < 2 ^ 31 by omega), nI_mul]
      have H := Frm.set (e := .inr (0, [.ref (B + 1), .int (nI n), .ref (B + 2), .ref (B + 3), .ref rs, .ref rs2, .ref (B + 17), .ref (B + 22), .ref (B + 48), .ref (B + 53), .int (nI nd), .int lw, .long (lN (wy dy nd)), .ref (B + 69), .ref (B + 70), .int (nI nl), .int (nI aa), .int (nI bb), .int (nI ((aa + bb - 1) / bb * n))])) s0 rfl
      have r0 := pm_at_self (e := .inr (0, [.ref (B + 1), .int (nI n), .ref (B + 2), .ref (B + 3), .ref rs, .ref rs2, .ref (B + 17), .ref (B + 22), .ref (B + 48), .ref (B + 53), .int (nI nd), .int lw, .long (lN (wy dy nd)), .ref (B + 69), .ref (B + 70), .int (nI nl), .int (nI aa), .int (nI bb), .int (nI ((aa + bb - 1) / bb * n))])) (pm_v_at s0)
      generalize pm_set B hd B (.inr (0, [.ref (B + 1), .int (nI n), .ref (B + 2), .ref (B + 3), .ref rs, .ref rs2, .ref (B + 17), .ref (B + 22), .ref (B + 48), .ref (B + 53), .int (nI nd), .int lw, .long (lN (wy dy nd)), .ref (B + 69), .ref (B + 70), .int (nI nl), .int (nI aa), .int (nI bb), .int (nI ((aa + bb - 1) / bb * n))])) = he at H r0 ⊢
      simp only [u_84_59, u_84_59n, u_84_60, u_84_63, pm_O_some, pm_w_nil, pm_w_i, pm_w_l, pm_w_r, pm_w_n, pm_c_n, pm_c_i, pm_c_l, pm_c_r, pm_c_u, Nat.reduceAdd, Nat.reduceLeDiff, true_and, Option.toList_some, Option.toList_none, List.cons_append, List.nil_append, r0, gf_0_18]
      have FG := (F.trans G).trans H
      obtain ⟨c3, c4, c5, c6, c7, c8⟩ := ob_frm FG w1 a3 a4 a5 a6 a7 n2
      exact hg2 he ⟨⟨rs, rs2, lw, nI aa, nI bb, _, r0, a2, c3, c4, c5, c6, c7, a8, Or.inr ⟨aa, bb, rfl, rfl, rfl, by omega, by omega, by omega, by omega, rfl, z⟩⟩, c8⟩ (Kp.of FG (by omega))
    · simp only [u_84_0, u_84_0n, u_84_1, u_84_4, u_84_7, u_84_8, u_84_9, u_84_12, u_84_15, u_84_18, u_84_19, u_84_20, u_84_23, u_84_26, pm_O_some, pm_w_nil, pm_w_i, pm_w_l, pm_w_r, pm_w_n, pm_c_n, pm_c_i, pm_c_l, pm_c_r, pm_c_u, Nat.reduceAdd, Nat.reduceLeDiff, true_and, Option.toList_some, Option.toList_none, List.cons_append, List.nil_append, a1, gf_0_1, if_neg e1, s_within, w_high, one0, ite_not]
      have hb := hb (fun c => hV c.2)
      repeat' split
      all_goals first | (simp only [u_84_29, u_84_30, pm_O_some, pm_w_nil, pm_w_i, pm_w_l, pm_w_r, pm_w_n, pm_c_n, pm_c_i, pm_c_l, pm_c_r, pm_c_u, Nat.reduceAdd, Nat.reduceLeDiff, true_and, Option.toList_some, Option.toList_none, List.cons_append, List.nil_append]; exact hb) | exact absurd ⟨by assumption, by assumption⟩ hV
end SE3

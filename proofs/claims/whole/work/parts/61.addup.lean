/-! RULES AND THEIR SUMS: RuleSet.turned, addUp. -/
def lI (t : Int) : Int64 := Int64.ofInt t
theorem lI_T {t : Int} (h1 : -2 ^ 63 ≤ t) (h2 : t < 2 ^ 63) : (lI t).toInt = t := Int64.toInt_ofInt_of_le h1 h2
theorem lI_N (n : Nat) : lI (n : Int) = lN n := Int64.ofInt_eq_ofNat
theorem lI_neg (t : Int) : -lI t = lI (-t) := Int64.neg_ofInt
theorem lI_mul (a b : Int) : lI a * lI b = lI (a * b) := (Int64.ofInt_mul a b).symm
theorem lI_add (a b : Int) : lI a + lI b = lI (a + b) := (Int64.ofInt_add a b).symm
theorem iL (x : Int32) : x.toInt64 = lI x.toInt := by
  apply Int64.toInt_inj.mp
  have h1 := x.le_toInt
  have h2 := x.toInt_lt
  rw [Int32.toInt_toInt64, lI_T (by omega) (by omega)]
theorem lI_abs {t : Int} (h1 : -2 ^ 63 < t) (h2 : t < 2 ^ 63) : (if 0 < lI t then lI t else -lI t) = lN t.natAbs := by
  have e : (0 < lI t) ↔ 0 < t := by
    rw [Int64.lt_iff_toInt_lt, lI_T (by omega) h2]
    simp
  by_cases z : 0 < t
  · rw [if_pos (e.mpr z), ← lI_N]
    congr 1
    omega
  · rw [if_neg (fun y => z (e.mp y)), lI_neg, ← lI_N]
    congr 1
    omega
theorem lI_sgl (t : Int) : lI t = sgl (decide (t < 0)) t.natAbs := by
  unfold sgl
  by_cases z : t < 0
  · rw [if_pos (decide_eq_true z), ← lI_N, lI_neg]
    congr 1
    omega
  · rw [if_neg (by simp [z]), ← lI_N]
    congr 1
    omega
abbrev Tm : Type := Nat × Nat × Nat × Nat
/-- a term's sign turned: 42 is '*', 45 '-' -/
def tn (g : Nat) (t sd : Int) : Int := if g = 42 then sd * t.natAbs else if g = 45 then -t else t
def tmok (T : Tm) : Prop := (T.1 = 42 ∨ T.1 = 43 ∨ T.1 = 45) ∧ (1 ≤ T.2.1 ∧ T.2.1 ≤ 999) ∧ (1 ≤ T.2.2.1 ∧ T.2.2.1 ≤ 999) ∧ T.2.2.2 < 8
/-- the sum of the first n terms of a rule, for values ab / be by kind -/
def rq (tm : Nat → Tm) (ab : Nat → Int) (be : Nat → Nat) (sd : Int) : Nat → Rat
  | 0 => 0
  | n + 1 => rq tm ab be sd n + mkRat (tn (tm n).1 ((tm n).2.1 * ab (tm n).2.2.2) sd) ((tm n).2.2.1 * be (tm n).2.2.2)
def RsR (B : Nat) (h : pm_H) (r : Nat) (fc fu fl fk fs : Nat → Int32) (x5 x6 : Int32) : Prop :=
  pm_at B h r = some (.inr (3, [.ref (r + 1), .ref (r + 2), .ref (r + 3), .ref (r + 4), .ref (r + 5), .int x5, .int x6])) ∧ pm_at B h (r + 1) = some (.inl (2, 48, .inl fc)) ∧ pm_at B h (r + 2) = some (.inl (0, 48, .inl fu)) ∧ pm_at B h (r + 3) = some (.inl (0, 48, .inl fl)) ∧ pm_at B h (r + 4) = some (.inl (0, 48, .inl fk)) ∧ pm_at B h (r + 5) = some (.inl (0, 8, .inl fs))
/-- a rule's rows tell its terms -/
def RuT (fc fu fl fk : Nat → Int32) (k n : Nat) (tm : Nat → Tm) : Prop := ∀ i, i < n → fc (k * 6 + i) = nI (tm i).1 ∧ fu (k * 6 + i) = nI (tm i).2.1 ∧ fl (k * 6 + i) = nI (tm i).2.2.1 ∧ fk (k * 6 + i) = nI (tm i).2.2.2 ∧ tmok (tm i)
section AU
variable {B : Nat} {X : pm_X} {h h' : pm_H} {Q : Option Value → pm_H → Prop} {r b t p lo hi P M R j k ax n : Nat} {F : Nat → Nat} {fc fu fl fk fs fa fb : Nat → Int32} {x5 x6 sd : Int32} {ab : Nat → Int} {be : Nat → Nat} {tm : Nat → Tm}
theorem RsR.frm (n1 : RsR B h r fc fu fl fk fs x5 x6) (f1 : Frm B h h' lo hi) (d : r + 6 ≤ lo ∨ hi ≤ r) : RsR B h' r fc fu fl fk fs x5 x6 := by
  obtain ⟨h1, h2, h3, h4, h5, h6⟩ := n1
  exact ⟨by rw [f1.2.2 _ (by omega)]; exact h1, by rw [f1.2.2 _ (by omega)]; exact h2, by rw [f1.2.2 _ (by omega)]; exact h3, by rw [f1.2.2 _ (by omega)]; exact h4, by rw [f1.2.2 _ (by omega)]; exact h5, by rw [f1.2.2 _ (by omega)]; exact h6⟩
theorem c_turned {g : Nat} {tt : Int} (hg : g < 2 ^ 31) (h1 : -2 ^ 62 < tt) (h2 : tt < 2 ^ 62) : PW B X 42 0 [some (.int (nI g)), some (.long (lI tt)), none, some (.int sd)] [] h Q ↔ Q (some (.long (lI (tn g tt sd.toInt)))) h := by
  have c42 : (nI g = 42) ↔ g = 42 := nI_eq (b := 42) hg (by decide)
  have c45 : (nI g = 45) ↔ g = 45 := nI_eq (b := 45) hg (by decide)
  unfold tn
  by_cases z : g = 42
  · have e : nI g = 42 := c42.mpr z
    simp only [u_42_0, u_42_1, u_42_3, u_42_6, u_42_7, u_42_8, u_42_9, u_42_12, u_42_13, u_42_14, u_42_15, u_42_17, u_42_20, u_42_21, u_42_22, u_42_25, u_42_26, pm_O_some, pm_w_nil, pm_w_i, pm_w_l, pm_w_r, pm_w_n, pm_c_n, pm_c_i, pm_c_l, pm_c_r, pm_c_u, Nat.reduceAdd, Nat.reduceLeDiff, true_and, Option.toList_some, Option.toList_none, List.cons_append, List.nil_append, e, not_true, if_false, lI_abs (show -2 ^ 63 < tt by omega) (show tt < 2 ^ 63 by omega), iL, if_pos z]
    rw [← lI_N, lI_mul]
  · have e : ¬ nI g = 42 := fun y => z (c42.mp y)
    by_cases z2 : g = 45
    · have e2 : nI g = 45 := c45.mpr z2
      simp only [u_42_0, u_42_1, u_42_3, u_42_6, u_42_7, u_42_8, u_42_9, u_42_12, u_42_13, u_42_14, u_42_15, u_42_17, u_42_20, u_42_21, u_42_22, u_42_25, u_42_26, pm_O_some, pm_w_nil, pm_w_i, pm_w_l, pm_w_r, pm_w_n, pm_c_n, pm_c_i, pm_c_l, pm_c_r, pm_c_u, Nat.reduceAdd, Nat.reduceLeDiff, true_and, Option.toList_some, Option.toList_none, List.cons_append, List.nil_append, e, not_false_eq_true, if_true, if_neg z, if_pos z2]
      simp only [e2, not_true, if_false, lI_neg]
    · have e2 : ¬ nI g = 45 := fun y => z2 (c45.mp y)
      simp only [u_42_0, u_42_1, u_42_3, u_42_6, u_42_7, u_42_8, u_42_9, u_42_12, u_42_13, u_42_14, u_42_15, u_42_17, u_42_20, u_42_21, u_42_22, u_42_25, u_42_26, pm_O_some, pm_w_nil, pm_w_i, pm_w_l, pm_w_r, pm_w_n, pm_c_n, pm_c_i, pm_c_l, pm_c_r, pm_c_u, Nat.reduceAdd, Nat.reduceLeDiff, true_and, Option.toList_some, Option.toList_none, List.cons_append, List.nil_append, e, e2, not_false_eq_true, if_true, if_neg z, if_neg z2]
theorem tn_abs {g : Nat} {tt sd : Int} (hs : sd = 1 ∨ sd = -1) : (tn g tt sd).natAbs = tt.natAbs := by
  unfold tn
  rcases hs with rfl | rfl <;> repeat' split
  all_goals omega
set_option maxHeartbeats 1000000 in
theorem c_addUp (n1 : RsR B h r fc fu fl fk fs x5 x6) (hk : k < 8) (hfs : fs k = nI n) (hn : n ≤ 6) (hT : RuT fc fu fl fk k n tm) {g0 g1 g2 g3 g6 g7 g8 g9 : Value} (b0 : pm_at B h b = some (.inr (9, [g0, g1, g2, g3, .ref (b + 1), .ref (b + 2), g6, g7, g8, g9]))) (b1 : pm_at B h (b + 1) = some (.inl (0, 24, .inl fa))) (b2 : pm_at B h (b + 2) = some (.inl (0, 24, .inl fb)))
    (hax : ax < 3) (hab : ∀ i, i < 8 → (fa (i * 3 + ax)).toInt = ab i ∧ -1000000 ≤ ab i ∧ ab i ≤ 1000000) (hbe : ∀ i, i < 8 → fb (i * 3 + ax) = nI (be i) ∧ 1 ≤ be i ∧ be i ≤ 1000) (hsd : sd.toInt = 1 ∨ sd.toInt = -1)
    (n2 : TsV B h t P M R F j) (d : t + 10 ≤ r ∨ r + 6 ≤ t) (d2 : t + 10 ≤ b ∨ b + 3 ≤ t)
    (hQ : ∀ h' P M F j, TsV B h' t P M (pF F j) F j → (∀ i, i < j → 0 < F i ∧ F i < 2 ^ 20) → pF F j < 1000000000 ^ 6 → dist P M < 1000000000 ^ 6 → mkRat ((P : Int) - M) (pF F j) = rq tm ab be sd.toInt n → Frm B h h' t (t + 10) → Q none h') :
    PW B X 40 0 [some (.ref r), some (.int (nI k)), some (.ref b), some (.int (nI ax)), some (.int sd), some (.ref t), none, none, none, none, none, none, none] [] h Q := by
  have loop : ∀ m i hb P M F j w7 w8 w9 w10 w11 w12, i + m = n → TsV B hb t P M (pF F j) F j → (∀ i, i < j → 0 < F i ∧ F i < 2 ^ 20) → pF F j ≤ 1000000 ^ j → P + M ≤ pF F j * (j * 1000000000) → j ≤ i → mkRat ((P : Int) - M) (pF F j) = rq tm ab be sd.toInt i → Frm B h hb t (t + 10) →
      PW B X 40 8 [some (.ref r), some (.int (nI k)), some (.ref b), some (.int (nI ax)), some (.int sd), some (.ref t), some (.int (nI i)), w7, w8, w9, w10, w11, w12] [] hb Q := by
    intro m
    induction m with
    | zero =>
      intro i hb P M F j w7 w8 w9 w10 w11 w12 hi x1 x2 x3 x4 x5 x6 x7
      obtain rfl : i = n := by omega
      obtain ⟨y1, y2, y3, y4, y5, y6⟩ := n1.frm x7 (by omega)
      have e2 : nI i ≤ nI i := nI_le (Nat.le_refl _) (by omega)
      simp only [u_40_8, u_40_10, u_40_10n, u_40_11, u_40_14, u_40_15, u_40_16, u_40_106, pm_O_some, pm_w_nil, pm_w_i, pm_w_l, pm_w_r, pm_w_n, pm_c_n, pm_c_i, pm_c_l, pm_c_r, pm_c_u, Nat.reduceAdd, Nat.reduceLeDiff, true_and, Option.toList_some, Option.toList_none, List.cons_append, List.nil_append, y1, gf_3_4, y6, ld_i (pm_ix_of hk (by decide)) (show pm_tok 0 = true from rfl), nI_clamp (show k < 2 ^ 31 by omega), hfs, if_pos e2]
      have hp6 : (1000000 : Nat) ^ j ≤ 1000000 ^ 6 := Nat.pow_le_pow_right (by decide) (by omega)
      have hpb : pF F j * (j * 1000000000) ≤ 1000000 ^ 6 * (6 * 1000000000) := Nat.mul_le_mul (by omega) (Nat.mul_le_mul_right _ (by omega))
      refine hQ hb P M F j x1 x2 (by omega) ?_ x6 x7
      have : dist P M ≤ P + M := by unfold dist; split <;> omega
      omega
    | succ m ih =>
      intro i hb P M F j w7 w8 w9 w10 w11 w12 hi x1 x2 x3 x4 x5 x6 x7
      have hin : i < n := by omega
      obtain ⟨y1, y2, y3, y4, y5, y6⟩ := n1.frm x7 (by omega)
      have c0 : pm_at B hb b = _ := (x7.2.2 b (by omega)).trans b0
      have c1 : pm_at B hb (b + 1) = _ := (x7.2.2 (b + 1) (by omega)).trans b1
      have c2 : pm_at B hb (b + 2) = _ := (x7.2.2 (b + 2) (by omega)).trans b2
      obtain ⟨t1, t2, t3, t4, tk⟩ := hT i hin
      obtain ⟨k1, ⟨k2, k2'⟩, ⟨k3, k3'⟩, k4⟩ := id tk
      have e2 : ¬ nI n ≤ nI i := nI_ge hin (by omega)
      have e6 : nI k * 6 = nI (k * 6) := pk_mul k 6
      have e3 : nI (tm i).2.2.2 * 3 = nI ((tm i).2.2.2 * 3) := pk_mul _ 3
      obtain ⟨a1, a2, a3⟩ := hab _ k4
      obtain ⟨l1, l2, l3⟩ := hbe _ k4
      have hg31 : (tm i).1 < 2 ^ 31 := by omega
      have eu : lN (tm i).2.1 * lI (ab (tm i).2.2.2) = lI ((tm i).2.1 * ab (tm i).2.2.2) := by rw [← lI_N, lI_mul]
      have hbd : ((tm i).2.1 * ab (tm i).2.2.2 : Int).natAbs ≤ 999 * 1000000 := by
        rw [Int.natAbs_mul]
        exact Nat.mul_le_mul (by omega) (by omega)
      have el : lN (tm i).2.2.1 * lN (be (tm i).2.2.2) = lN ((tm i).2.2.1 * be (tm i).2.2.2) := lN_mul _ _
      have hl1 : (tm i).2.2.1 * be (tm i).2.2.2 ≤ 999 * 1000 := Nat.mul_le_mul k3' l3
      have hl0 : 0 < (tm i).2.2.1 * be (tm i).2.2.2 := Nat.mul_pos (by omega) (by omega)
      rw [u_40_8]
      simp only [u_40_10, u_40_10n, u_40_11, u_40_14, u_40_15, u_40_16, u_40_19, u_40_20, u_40_22, u_40_23, u_40_25, u_40_26, u_40_28, u_40_28n, u_40_29, u_40_32, u_40_34, u_40_35, u_40_36, u_40_37, u_40_38, u_40_39, u_40_41, u_40_41n, u_40_42, u_40_45, u_40_47, u_40_48, u_40_49, u_40_49n, u_40_50, u_40_53, u_40_55, u_40_56, u_40_57, u_40_58, u_40_60, u_40_60n, u_40_61, u_40_64, u_40_66, u_40_67, u_40_68, u_40_68n, u_40_69, u_40_72, u_40_74, u_40_75, u_40_76, u_40_77, u_40_79, u_40_79n, u_40_81, u_40_81n, u_40_82, u_40_85, u_40_87, u_40_88, u_40_90, u_40_92, u_40_95, u_40_97, pm_O_some, pm_w_nil, pm_w_i, pm_w_l, pm_w_r, pm_w_n, pm_c_n, pm_c_i, pm_c_l, pm_c_r, pm_c_u, Nat.reduceAdd, Nat.reduceLeDiff, true_and, Option.toList_some, Option.toList_none, List.cons_append, List.nil_append, y1, y2, y3, y4, y5, c0, c1, c2, gf_3_0, gf_3_1, gf_3_2, gf_3_3, gf_3_4, gf_9_4, gf_9_5, y6, ld_i (pm_ix_of hk (by decide)) (show pm_tok 0 = true from rfl), nI_clamp (show k < 2 ^ 31 by omega), hfs, if_neg e2, e6, nI_add,
        ld_i (pm_ix_of (show k * 6 + i < 48 by omega) (by decide)) (show pm_tok 0 = true from rfl), ld_i (pm_ix_of (show k * 6 + i < 48 by omega) (by decide)) (show pm_tok 2 = true from rfl), nI_clamp (show k * 6 + i < 2 ^ 31 by omega), t1, t2, t3, t4, e3,
        ld_i (pm_ix_of (show (tm i).2.2.2 * 3 + ax < 24 by omega) (by decide)) (show pm_tok 0 = true from rfl), nI_clamp (show (tm i).2.2.2 * 3 + ax < 2 ^ 31 by omega), nI_l (show (tm i).2.1 < 2 ^ 31 by omega), nI_l (show (tm i).2.2.1 < 2 ^ 31 by omega), iL (fa _), a1, l1, nI_l (show be (tm i).2.2.2 < 2 ^ 31 by omega), eu, el,
        c_turned hg31 (show -2 ^ 62 < ((tm i).2.1 * ab (tm i).2.2.2 : Int) by omega) (show ((tm i).2.1 * ab (tm i).2.2.2 : Int) < 2 ^ 62 by omega), x1.io]
      have hta := tn_abs (g := (tm i).1) (tt := (tm i).2.1 * ab (tm i).2.2.2) hsd
      have hrq : rq tm ab be sd.toInt (i + 1) = rq tm ab be sd.toInt i + mkRat (tn (tm i).1 ((tm i).2.1 * ab (tm i).2.2.2) sd.toInt) ((tm i).2.2.1 * be (tm i).2.2.2) := rfl
      generalize tn (tm i).1 ((tm i).2.1 * ab (tm i).2.2.2) sd.toInt = T at hta hrq ⊢
      generalize (tm i).2.2.1 * be (tm i).2.2.2 = l at hl0 hl1 hrq ⊢
      have hpos := pF_pos (F := F) (k := j) (fun i hi => (x2 i hi).1)
      by_cases hT0 : T = 0
      · subst hT0
        rw [show lI 0 = (0 : Int64) from rfl, c_tadd0 x1]
        simp only [u_40_100, u_40_103, pm_O_some, pm_w_nil, pm_w_i, pm_w_l, pm_w_r, pm_w_n, pm_c_n, pm_c_i, pm_c_l, pm_c_r, pm_c_u, Nat.reduceAdd, Nat.reduceLeDiff, true_and, Option.toList_some, Option.toList_none, List.cons_append, List.nil_append, nI_1]
        refine ih (i + 1) hb P M F j _ _ _ _ _ _ (by omega) x1 x2 x3 x4 (by omega) ?_ x7
        rw [hrq, Rat.zero_mkRat, Rat.add_zero]
        exact x6
      · rw [lI_sgl T]
        have hp6 : (1000000 : Nat) ^ j ≤ 1000000 ^ 6 := Nat.pow_le_pow_right (by decide) (by omega)
        have hpb : pF F j * (j * 1000000000) ≤ 1000000 ^ 6 * (6 * 1000000000) := Nat.mul_le_mul (by omega) (Nat.mul_le_mul_right _ (by omega))
        refine c_tadd x1 (by omega) (by omega) (by omega) hl0 (by omega) (by omega) (by omega) (by omega) (fun hc z1 z2 => ?_)
        simp only [u_40_100, u_40_103, pm_O_some, pm_w_nil, pm_w_i, pm_w_l, pm_w_r, pm_w_n, pm_c_n, pm_c_i, pm_c_l, pm_c_r, pm_c_u, Nat.reduceAdd, Nat.reduceLeDiff, true_and, Option.toList_some, Option.toList_none, List.cons_append, List.nil_append, nI_1]
        have hF' : pF (fun i => if i = j then l else F i) j = pF F j := by
          have : ∀ m, m ≤ j → pF (fun i => if i = j then l else F i) m = pF F m := by
            intro m
            induction m with
            | zero => intro _; rfl
            | succ m ihm =>
              intro hm
              rw [pF, pF, ihm (by omega)]
              congr 1
              exact if_neg (by omega)
          exact this j (Nat.le_refl _)
        have hF1 : pF (fun i => if i = j then l else F i) (j + 1) = pF F j * l := by
          rw [pF, hF']
          congr 1
          exact if_pos rfl
        rw [← hF1] at z1
        refine ih (i + 1) hc _ _ _ (j + 1) _ _ _ _ _ _ (by omega) z1 (fun i hi => ?_) ?_ ?_ (by omega) ?_ (x7.trans z2)
        · by_cases hij : i = j
          · simp only [hij, if_true]; exact ⟨hl0, by omega⟩
          · simp only [hij, if_false]; exact x2 i (by omega)
        · rw [hF1, Nat.pow_succ]
          exact Nat.mul_le_mul x3 (by omega)
        · rw [hF1]
          have q1 : (P + M) * l ≤ pF F j * (j * 1000000000) * l := Nat.mul_le_mul_right _ x4
          have q2 : pF F j * T.natAbs ≤ pF F j * 1000000000 := Nat.mul_le_mul_left _ (by omega)
          have q3 : pF F j * 1000000000 ≤ pF F j * 1000000000 * l := Nat.le_mul_of_pos_right _ hl0
          have q4 : pF F j * l * ((j + 1) * 1000000000) = pF F j * (j * 1000000000) * l + pF F j * 1000000000 * l := by
            rw [Nat.add_mul, Nat.mul_add, Nat.one_mul, Nat.mul_right_comm, Nat.mul_right_comm (pF F j) l 1000000000]
          rw [Nat.add_mul] at q1
          rw [q4]
          cases decide (T < 0) <;> simp only [if_true, if_false, Bool.false_eq_true] <;> omega
        · rw [hF1, hrq, ← x6, Rat.mkRat_add_mkRat _ _ (by omega) (by omega)]
          congr 1
          by_cases hneg : T < 0
          · have : ((T.natAbs : Nat) : Int) = -T := by omega
            simp only [decide_eq_true hneg, if_true, Int.natCast_add, Int.natCast_mul, this, Nat.add_zero]
            rw [Int.mul_neg, Int.sub_mul, Int.mul_comm T]
            omega
          · have : ((T.natAbs : Nat) : Int) = T := by omega
            simp only [decide_eq_false hneg, if_false, Bool.false_eq_true, Int.natCast_add, Int.natCast_mul, this, Nat.add_zero]
            rw [Int.sub_mul, Int.mul_comm T]
            omega
  simp only [u_40_0, u_40_0n, u_40_2, pm_O_some, pm_w_nil, pm_w_i, pm_w_l, pm_w_r, pm_w_n, pm_c_n, pm_c_i, pm_c_l, pm_c_r, pm_c_u, Nat.reduceAdd, Nat.reduceLeDiff, true_and, Option.toList_some, Option.toList_none, List.cons_append, List.nil_append, n2.io]
  refine c_tclear n2 (fun ha G k1 F1 => ?_)
  simp only [u_40_5, u_40_6, pm_O_some, pm_w_nil, pm_w_i, pm_w_l, pm_w_r, pm_w_n, pm_c_n, pm_c_i, pm_c_l, pm_c_r, pm_c_u, Nat.reduceAdd, Nat.reduceLeDiff, true_and, Option.toList_some, Option.toList_none, List.cons_append, List.nil_append]
  exact loop n 0 ha 0 0 G 0 none none none none none none (by omega) k1 (fun i hi => absurd hi (by omega)) (by simp [pF]) (by simp) (Nat.le_refl _) (by simp [rq]) F1
end AU

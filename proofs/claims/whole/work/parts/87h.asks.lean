/-! THE REFERENCE: divisor, ofMillionths, gap, way, travel, direction. -/
theorem fho_none {bs : Nat → Bg} : ∀ {n : Nat}, (∀ j, j < n → ¬ both (bs j)) → fho bs n = none
  | 0, _ => rfl
  | n + 1, h => by
    rw [fho, fho_none (fun j hj => h j (by omega))]
    have := h n (by omega)
    unfold both at this
    by_cases c1 : (bs n).2.2.1 = 0
    · rw [if_neg (by decide), if_pos c1]
    · by_cases c2 : (bs n).2.2.2.1 = 0
      · rw [if_neg (by decide), if_neg c1, if_pos c2]
      · exact absurd ⟨c1, c2⟩ this
theorem fho_least {bs : Nat → Bg} {f n : Nat} (hf : f < n) (hb : both (bs f)) (h : ∀ j, j < f → ¬ both (bs j)) : fho bs n = some f := by
  refine fho_some (i := f + 1) ?_ hf
  rw [fho, fho_none h, if_neg (by decide), if_neg hb.1, if_neg hb.2]
theorem i_tdiv {x : Int32} {g : Nat} (h0 : 0 < g) (hg : g < 2 ^ 31) : x / nI g = dirv x.toInt g := by
  have ne : nI g ≠ -1 := nI_nm hg
  apply Int32.toInt_inj.mp
  unfold dirv
  rw [Int32.toInt_div_of_ne_right _ _ ne, nI_toInt hg, Int32.toInt_ofInt_of_le]
  · have h1 : -2 ^ 31 ≤ x.toInt := x.le_toInt
    have h2 : x.toInt < 2 ^ 31 := x.toInt_lt
    have := Int.natAbs_tdiv_le_natAbs x.toInt g
    rcases Int.lt_or_le x.toInt 0 with z | z
    · omega
    · have := Int.tdiv_nonneg z (show (0 : Int) ≤ g by omega)
      omega
  · have h1 : -2 ^ 31 ≤ x.toInt := x.le_toInt
    have h2 : x.toInt < 2 ^ 31 := x.toInt_lt
    have := Int.natAbs_tdiv_le_natAbs x.toInt g
    rcases Int.lt_or_le x.toInt 0 with z | z
    · have := Int.tdiv_nonneg (show 0 ≤ -x.toInt by omega) (show (0 : Int) ≤ g by omega)
      rw [Int.neg_tdiv] at this
      omega
    · omega
theorem mkM {z : Int} : (mkRat z 10000000).num.natAbs = z.natAbs / Nat.gcd z.natAbs 10000000 ∧ (mkRat z 10000000).den = 10000000 / Nat.gcd z.natAbs 10000000 ∧ sg (mkRat z 10000000).num = sg z := by
  have g0 : 0 < Nat.gcd z.natAbs 10000000 := Nat.gcd_pos_of_pos_right _ (by decide)
  have d1 := Nat.gcd_dvd_left z.natAbs 10000000
  have d2 := Nat.gcd_dvd_right z.natAbs 10000000
  refine rat_of (U := z.natAbs / Nat.gcd z.natAbs 10000000) (L := 10000000 / Nat.gcd z.natAbs 10000000) (by decide) (Nat.div_pos (Nat.le_of_dvd (by decide) d2) g0) (Nat.coprime_div_gcd_div_gcd g0) ?_
  obtain ⟨u, hu⟩ := d1
  obtain ⟨v, hv⟩ := d2
  generalize Nat.gcd z.natAbs 10000000 = g at *
  rw [hu, hv, Nat.mul_div_cancel_left _ g0, Nat.mul_div_cancel_left _ g0, Nat.mul_left_comm, Nat.mul_assoc]
theorem l_abs {z : Int} (h1 : -2 ^ 62 < z) (h2 : z < 2 ^ 62) : (0 : Int64) ≤ lI z ∧ lI z = lN z.natAbs ∨ ¬ (0 : Int64) ≤ lI z ∧ -lI z = lN z.natAbs := by
  by_cases c : 0 ≤ z
  · refine Or.inl ⟨(lI_ge0 h1 h2).mpr c, ?_⟩
    rw [← lI_N]
    congr 1
    omega
  · refine Or.inr ⟨mt (lI_ge0 h1 h2).mp c, ?_⟩
    rw [lI_neg, ← lI_N]
    congr 1
    omega
section ASK
variable {B : Nat} {X : pm_X} {h h' h2 : pm_H} {Q : Option Value → pm_H → Prop} {m lo hi n ln nr nd nl i k a r : Nat} {bs : Nat → Bg} {tx sz lm ll : Nat → Nat} {tm : Nat → Nat → Tm} {dy : Nat → Int} {jk : Option (Nat × Nat)} {R : Nat → Rg} {b ax pt w : Int32} {z : Int}
theorem c_divisor {u v : Int} (hu : -2 ^ 62 < u ∧ u < 2 ^ 62) (hv : -2 ^ 62 < v ∧ v < 2 ^ 62) : PW B X 129 0 [some (.long (lI u)), none, some (.long (lI v)), none, none, none, none, none, none, none] [] h Q ↔ Q (some (.long (lN (Nat.gcd u.natAbs v.natAbs)))) h := by
  have loop : ∀ y x w8 w9, x < 2 ^ 63 → y < 2 ^ 63 → (PW B X 129 28 [some (.long (lI u)), none, some (.long (lI v)), none, some (.long (lN x)), none, some (.long (lN y)), none, w8, w9] [] h Q ↔ Q (some (.long (lN (Nat.gcd x y)))) h) := by
    intro y
    induction y using Nat.strongRecOn with
    | ind y ih =>
      intro x w8 w9 hx hy
      by_cases c : y = 0
      · subst c
        have e3 : lN 0 = (0 : Int64) := rfl
        simp only [u_129_28, u_129_30, u_129_31, u_129_32, u_129_53, u_129_55, pm_O_some, pm_w_nil, pm_w_i, pm_w_l, pm_w_r, pm_w_n, pm_c_n, pm_c_i, pm_c_l, pm_c_r, pm_c_u, Nat.reduceAdd, Nat.reduceLeDiff, true_and, Option.toList_some, Option.toList_none, List.cons_append, List.nil_append, lg_cmp_eq, e3, if_true, Nat.gcd_zero_right]
      · have e3 : ¬ lN y = 0 := l_ne0 (by omega) hy
        have hlt : x % y < y := Nat.mod_lt _ (by omega)
        rw [u_129_28]
        simp only [u_129_30, u_129_31, u_129_32, u_129_35, u_129_37, u_129_39, u_129_40, u_129_42, u_129_44, u_129_46, u_129_48, u_129_50, pm_O_some, pm_w_nil, pm_w_i, pm_w_l, pm_w_r, pm_w_n, pm_c_n, pm_c_i, pm_c_l, pm_c_r, pm_c_u, Nat.reduceAdd, Nat.reduceLeDiff, true_and, Option.toList_some, Option.toList_none, List.cons_append, List.nil_append, lg_cmp_eq, e3, if_false, not_false_eq_true, pk_lRem hx (show 0 < y by omega) hy]
        rw [ih (x % y) hlt y _ _ hy (by omega), Nat.gcd_comm x y, Nat.gcd_rec y x, Nat.gcd_comm]
  rcases l_abs hu.1 hu.2 with ⟨c1, e1⟩ | ⟨c1, e1⟩
  · rcases l_abs hv.1 hv.2 with ⟨c2, e2⟩ | ⟨c2, e2⟩
    · simp only [u_129_0, u_129_1, u_129_2, u_129_3, u_129_6, u_129_7, u_129_8, u_129_11, u_129_12, u_129_14, u_129_15, u_129_16, u_129_17, u_129_20, u_129_21, u_129_22, u_129_25, u_129_26, pm_O_some, pm_w_nil, pm_w_i, pm_w_l, pm_w_r, pm_w_n, pm_c_n, pm_c_i, pm_c_l, pm_c_r, pm_c_u, Nat.reduceAdd, Nat.reduceLeDiff, true_and, Option.toList_some, Option.toList_none, List.cons_append, List.nil_append, lg_cmp_ge, if_pos c1, if_pos c2]
      have := loop v.natAbs u.natAbs none none (by omega) (by omega)
      rw [← e1, ← e2] at this
      rw [this]
    · simp only [u_129_0, u_129_1, u_129_2, u_129_3, u_129_6, u_129_7, u_129_8, u_129_11, u_129_12, u_129_14, u_129_15, u_129_16, u_129_17, u_129_20, u_129_21, u_129_22, u_129_25, u_129_26, pm_O_some, pm_w_nil, pm_w_i, pm_w_l, pm_w_r, pm_w_n, pm_c_n, pm_c_i, pm_c_l, pm_c_r, pm_c_u, Nat.reduceAdd, Nat.reduceLeDiff, true_and, Option.toList_some, Option.toList_none, List.cons_append, List.nil_append, lg_cmp_ge, if_pos c1, if_neg c2]
      have := loop v.natAbs u.natAbs none none (by omega) (by omega)
      rw [← e1, ← e2] at this
      rw [this]
  · rcases l_abs hv.1 hv.2 with ⟨c2, e2⟩ | ⟨c2, e2⟩
    · simp only [u_129_0, u_129_1, u_129_2, u_129_3, u_129_6, u_129_7, u_129_8, u_129_11, u_129_12, u_129_14, u_129_15, u_129_16, u_129_17, u_129_20, u_129_21, u_129_22, u_129_25, u_129_26, pm_O_some, pm_w_nil, pm_w_i, pm_w_l, pm_w_r, pm_w_n, pm_c_n, pm_c_i, pm_c_l, pm_c_r, pm_c_u, Nat.reduceAdd, Nat.reduceLeDiff, true_and, Option.toList_some, Option.toList_none, List.cons_append, List.nil_append, lg_cmp_ge, if_neg c1, if_pos c2]
      have := loop v.natAbs u.natAbs none none (by omega) (by omega)
      rw [← e1, ← e2] at this
      rw [this]
    · simp only [u_129_0, u_129_1, u_129_2, u_129_3, u_129_6, u_129_7, u_129_8, u_129_11, u_129_12, u_129_14, u_129_15, u_129_16, u_129_17, u_129_20, u_129_21, u_129_22, u_129_25, u_129_26, pm_O_some, pm_w_nil, pm_w_i, pm_w_l, pm_w_r, pm_w_n, pm_c_n, pm_c_i, pm_c_l, pm_c_r, pm_c_u, Nat.reduceAdd, Nat.reduceLeDiff, true_and, Option.toList_some, Option.toList_none, List.cons_append, List.nil_append, lg_cmp_ge, if_neg c1, if_neg c2]
      have := loop v.natAbs u.natAbs none none (by omega) (by omega)
      rw [← e1, ← e2] at this
      rw [this]
theorem d18_0 {V : Nat} (h : V < 1000000000 * 1000000000) : d18 V 0 = V := by
  unfold d18
  rw [Nat.mul_zero, Nat.pow_zero, Nat.div_one, Nat.mod_eq_of_lt h]
theorem d18_s {V j : Nat} (h : V < 1000000000 * 1000000000) (hj : 1 ≤ j) : d18 V j = 0 := by
  unfold d18
  have : 1000000000 ^ 2 ≤ 1000000000 ^ (2 * j) := Nat.pow_le_pow_right (by decide) (by omega)
  have e : 1000000000 ^ 2 = 1000000000 * 1000000000 := by decide
  rw [Nat.div_eq_of_lt (by omega), Nat.zero_mod]
theorem c_ofM (hz : -1000000000000000 < z ∧ z < 1000000000000000) (hp : -1 ≤ pt.toInt) (hQ : Q (some (.long (prt (mkRat z 10000000) pt))) h) : PW B X 134 0 [some (.long (lI z)), none, some (.int pt), none, none, none, none] [] h Q := by
  have hm := mkM (z := z)
  have g0 : 0 < Nat.gcd z.natAbs 10000000 := Nat.gcd_pos_of_pos_right _ (by decide)
  have g1 : Nat.gcd z.natAbs 10000000 ≤ 10000000 := Nat.le_of_dvd (by decide) (Nat.gcd_dvd_right _ _)
  unfold prt at hQ
  rw [hm.1, hm.2.1, hm.2.2] at hQ
  simp only [u_134_0, u_134_1, u_134_4, pm_O_some, pm_w_nil, pm_w_i, pm_w_l, pm_w_r, pm_w_n, pm_c_n, pm_c_i, pm_c_l, pm_c_r, pm_c_u, Nat.reduceAdd, Nat.reduceLeDiff, true_and, Option.toList_some, Option.toList_none, List.cons_append, List.nil_append, show (10000000 : Int64) = lI 10000000 from rfl]
  rw [c_divisor (by omega) (by omega), show (10000000 : Int).natAbs = 10000000 from rfl]
  generalize hg : Nat.gcd z.natAbs 10000000 = g at *
  have q1 : z.natAbs / g < 1000000000 * 1000000000 := Nat.lt_of_le_of_lt (Nat.div_le_self _ _) (by omega)
  have q2 : 10000000 / g < 1000000000 * 1000000000 := Nat.lt_of_le_of_lt (Nat.div_le_self _ _) (by omega)
  have gz : ¬ lN g = 0 := l_ne0 g0 (by omega)
  have key : ∀ sz, sz = lN z.natAbs → PW B X 134 22 [some (.long (lI z)), none, some (.int pt), some (.long (lN g)), none, some (.long sz), none] [] h Q := by
    intro sz hsz
    rcases p_cases hp with y | ⟨y1, y2⟩
    · subst y
      rw [if_pos rfl] at hQ
      rcases Int.lt_trichotomy z 0 with c | c | c
      · have e1 : ¬ (0 : Int64) ≤ lI z := mt (lI_ge0 (by omega) (by omega)).mp (by omega)
        simp only [u_134_22, u_134_23, u_134_24, u_134_27, u_134_28, u_134_29, u_134_30, u_134_33, u_134_36, u_134_78, pm_O_some, pm_w_nil, pm_w_i, pm_w_l, pm_w_r, pm_w_n, pm_c_n, pm_c_i, pm_c_l, pm_c_r, pm_c_u, Nat.reduceAdd, Nat.reduceLeDiff, true_and, Option.toList_some, Option.toList_none, List.cons_append, List.nil_append, not_true, if_false, lg_cmp_ge, if_neg e1]
        rw [show sg z = -1 from if_pos c] at hQ
        exact hQ
      · subst c
        have e1 : (0 : Int64) ≤ lI 0 := by decide
        have e2 : lI 0 ≤ (0 : Int64) := by decide
        simp only [u_134_22, u_134_23, u_134_24, u_134_27, u_134_28, u_134_29, u_134_30, u_134_33, u_134_36, u_134_39, u_134_40, u_134_41, u_134_42, u_134_45, u_134_46, u_134_49, u_134_50, u_134_78, pm_O_some, pm_w_nil, pm_w_i, pm_w_l, pm_w_r, pm_w_n, pm_c_n, pm_c_i, pm_c_l, pm_c_r, pm_c_u, Nat.reduceAdd, Nat.reduceLeDiff, true_and, Option.toList_some, Option.toList_none, List.cons_append, List.nil_append, not_true, if_false, lg_cmp_ge, lg_cmp_le, if_pos e1, if_pos e2]
        exact hQ
      · have e1 : (0 : Int64) ≤ lI z := (lI_ge0 (by omega) (by omega)).mpr (by omega)
        have e2 : ¬ lI z ≤ (0 : Int64) := fun y => by
          have := l_le.mp y
          rw [lI_T (by omega) (by omega)] at this
          change z ≤ 0 at this
          omega
        simp only [u_134_22, u_134_23, u_134_24, u_134_27, u_134_28, u_134_29, u_134_30, u_134_33, u_134_36, u_134_39, u_134_40, u_134_41, u_134_42, u_134_45, u_134_46, u_134_49, u_134_50, u_134_78, pm_O_some, pm_w_nil, pm_w_i, pm_w_l, pm_w_r, pm_w_n, pm_c_n, pm_c_i, pm_c_l, pm_c_r, pm_c_u, Nat.reduceAdd, Nat.reduceLeDiff, true_and, Option.toList_some, Option.toList_none, List.cons_append, List.nil_append, not_true, if_false, lg_cmp_ge, lg_cmp_le, if_pos e1, if_neg e2]
        rw [sg_p c] at hQ
        exact hQ
    · rw [if_neg y1] at hQ
      have k3 := nI_ix y2
      have hlt : pt.toInt < 2 ^ 31 := Int32.toInt_lt pt
      have k4 := ix_T y2
      generalize ix pt = p at k3 k4 hQ
      subst k3
      by_cases p0 : p = 0
      · subst p0
        have e0 : nI 0 = 0 := rfl
        have e1 : ¬ (0 : Int32) = -1 := by decide
        simp only [u_134_22, u_134_23, u_134_24, u_134_53, u_134_54, u_134_57, u_134_59, u_134_60, u_134_61, u_134_78, pm_O_some, pm_w_nil, pm_w_i, pm_w_l, pm_w_r, pm_w_n, pm_c_n, pm_c_i, pm_c_l, pm_c_r, pm_c_u, Nat.reduceAdd, Nat.reduceLeDiff, true_and, Option.toList_some, Option.toList_none, List.cons_append, List.nil_append, e0, e1, not_false_eq_true, not_true, if_true, if_false, gz, hsz, pk_lDiv (show z.natAbs < 2 ^ 63 by omega) g0 (show g < 2 ^ 63 by omega)]
        rw [if_pos rfl, Nat.zero_div, d18_0 q1] at hQ
        exact hQ
      · have e0 : ¬ nI p = 0 := mt (nI_e0 (by omega)).mp p0
        have e1 : ¬ nI p = -1 := nI_nm (by omega)
        by_cases p1 : p = 1
        · subst p1
          have e2 : nI 1 = 1 := rfl
          have e3 : ¬ (1 : Int32) = -1 := by decide
          simp only [u_134_22, u_134_23, u_134_24, u_134_53, u_134_54, u_134_64, u_134_65, u_134_66, u_134_69, u_134_72, u_134_73, u_134_74, u_134_78, pm_O_some, pm_w_nil, pm_w_i, pm_w_l, pm_w_r, pm_w_n, pm_c_n, pm_c_i, pm_c_l, pm_c_r, pm_c_u, Nat.reduceAdd, Nat.reduceLeDiff, true_and, Option.toList_some, Option.toList_none, List.cons_append, List.nil_append, e2, e3, i10, not_false_eq_true, not_true, if_true, if_false, gz, show (10000000 : Int64) = lN 10000000 from rfl, pk_lDiv (show 10000000 < 2 ^ 63 by omega) g0 (show g < 2 ^ 63 by omega)]
          rw [if_neg (by decide), show (1 / 2 : Nat) = 0 from rfl, d18_0 q2] at hQ
          exact hQ
        · have e2 : ¬ nI p = 1 := fun y => p1 ((nI_eq (b := 1) (by omega) (by decide)).mp y)
          simp only [u_134_22, u_134_23, u_134_24, u_134_53, u_134_54, u_134_64, u_134_65, u_134_66, u_134_77, u_134_78, pm_O_some, pm_w_nil, pm_w_i, pm_w_l, pm_w_r, pm_w_n, pm_c_n, pm_c_i, pm_c_l, pm_c_r, pm_c_u, Nat.reduceAdd, Nat.reduceLeDiff, true_and, Option.toList_some, Option.toList_none, List.cons_append, List.nil_append, e0, e1, e2, not_false_eq_true, if_true]
          rw [d18_s q1 (by omega), d18_s q2 (by omega), ite_self] at hQ
          exact hQ
  rcases l_abs (z := z) (by omega) (by omega) with ⟨c1, e1⟩ | ⟨c1, e1⟩
  · simp only [u_134_7, u_134_8, u_134_9, u_134_10, u_134_11, u_134_14, u_134_15, u_134_16, u_134_19, u_134_20, pm_O_some, pm_w_nil, pm_w_i, pm_w_l, pm_w_r, pm_w_n, pm_c_n, pm_c_i, pm_c_l, pm_c_r, pm_c_u, Nat.reduceAdd, Nat.reduceLeDiff, true_and, Option.toList_some, Option.toList_none, List.cons_append, List.nil_append, lg_cmp_ge, if_pos c1]
    exact key _ e1
  · simp only [u_134_7, u_134_8, u_134_9, u_134_10, u_134_11, u_134_14, u_134_15, u_134_16, u_134_19, u_134_20, pm_O_some, pm_w_nil, pm_w_i, pm_w_l, pm_w_r, pm_w_n, pm_c_n, pm_c_i, pm_c_l, pm_c_r, pm_c_u, Nat.reduceAdd, Nat.reduceLeDiff, true_and, Option.toList_some, Option.toList_none, List.cons_append, List.nil_append, lg_cmp_ge, if_neg c1]
    exact key _ e1
theorem r_gap (so : SO n bs ln tx nr sz tm nd dy nl lm ll jk) (n1 : MI B h m n bs ln tx nr sz tm nd dy nl lm ll jk) (hg : vb n b ∧ (-600 ≤ w.toInt ∧ w.toInt ≤ 900) ∧ -1 ≤ pt.toInt → Q (some (.long (prt (mkRat (fg (bs (ix b)) w.toInt) 10000000) pt))) h)
    (hb : ¬ (vb n b ∧ (-600 ≤ w.toInt ∧ w.toInt ≤ 900) ∧ -1 ≤ pt.toInt) → Q (some (.long (wrg pt))) h) :
    PW B X 133 0 [some (.ref m), some (.int b), some (.int w), some (.int pt)] [] h Q := by
  have hn := so.1.1
  obtain ⟨⟨x8, x9, x13, jh, jm, x31, x32, c, cj⟩, a2, a3, a4, a5, a6, ⟨fl, fg', fw', b1, b2, b3, b4⟩, _⟩ := id n1
  have bad : ¬ (vb n b ∧ (-600 ≤ w.toInt ∧ w.toInt ≤ 900) ∧ -1 ≤ pt.toInt) → PW B X 133 27 [some (.ref m), some (.int b), some (.int w), some (.int pt)] [] h Q := by
    intro z
    have hb2 := hb z
    unfold wrg at hb2
    by_cases c1 : pt = -1
    · rw [if_pos c1] at hb2
      simp only [u_133_27, u_133_28, u_133_29, u_133_32, u_133_35, u_133_38, u_133_41, pm_O_some, pm_w_nil, pm_w_i, pm_w_l, pm_w_r, pm_w_n, pm_c_n, pm_c_i, pm_c_l, pm_c_r, pm_c_u, Nat.reduceAdd, Nat.reduceLeDiff, true_and, Option.toList_some, Option.toList_none, List.cons_append, List.nil_append, c1, not_true, if_false]
      exact hb2
    · rw [if_neg c1] at hb2
      simp only [u_133_27, u_133_28, u_133_29, u_133_32, u_133_35, u_133_38, u_133_41, pm_O_some, pm_w_nil, pm_w_i, pm_w_l, pm_w_r, pm_w_n, pm_c_n, pm_c_i, pm_c_l, pm_c_r, pm_c_u, Nat.reduceAdd, Nat.reduceLeDiff, true_and, Option.toList_some, Option.toList_none, List.cons_append, List.nil_append, c1, not_false_eq_true, if_true]
      exact hb2
  by_cases h1 : ¬ (0 ≤ b.toInt ∧ b.toInt < (n : Int))
  · simp only [u_133_0, u_133_0n, u_133_1, u_133_2, u_133_5, pm_O_some, pm_w_nil, pm_w_i, pm_w_l, pm_w_r, pm_w_n, pm_c_n, pm_c_i, pm_c_l, pm_c_r, pm_c_u, Nat.reduceAdd, Nat.reduceLeDiff, true_and, Option.toList_some, Option.toList_none, List.cons_append, List.nil_append, c.io, s_isB c hn, one0, ite_not, if_neg h1]
    exact bad (fun z => h1 z.1)
  replace h1 := Decidable.not_not.mp h1
  by_cases h2 : ¬ (-600 ≤ w.toInt ∧ w.toInt ≤ 900)
  · simp only [u_133_0, u_133_0n, u_133_1, u_133_2, u_133_5, u_133_8, u_133_9, u_133_10, u_133_13, u_133_16, u_133_19, pm_O_some, pm_w_nil, pm_w_i, pm_w_l, pm_w_r, pm_w_n, pm_c_n, pm_c_i, pm_c_l, pm_c_r, pm_c_u, Nat.reduceAdd, Nat.reduceLeDiff, true_and, Option.toList_some, Option.toList_none, List.cons_append, List.nil_append, c.io, s_isB c hn, s_in, wl (a := -600) (b := 900) (p := -600) (q := 900) rfl rfl, one0, ite_not, if_pos h1, if_neg h2]
    exact bad (fun z => h2 z.2.1)
  replace h2 := Decidable.not_not.mp h2
  by_cases h4 : ¬ (-1 ≤ pt)
  · simp only [u_133_0, u_133_0n, u_133_1, u_133_2, u_133_5, u_133_8, u_133_9, u_133_10, u_133_13, u_133_16, u_133_19, u_133_22, u_133_23, u_133_24, pm_O_some, pm_w_nil, pm_w_i, pm_w_l, pm_w_r, pm_w_n, pm_c_n, pm_c_i, pm_c_l, pm_c_r, pm_c_u, Nat.reduceAdd, Nat.reduceLeDiff, true_and, Option.toList_some, Option.toList_none, List.cons_append, List.nil_append, c.io, s_isB c hn, s_in, wl (a := -600) (b := 900) (p := -600) (q := 900) rfl rfl, one0, ite_not, if_pos h1, if_pos h2, if_neg h4]
    exact bad (fun z => h4 (i_m1.mpr z.2.2))
  replace h4 := Decidable.not_not.mp h4
  have hg2 := hg ⟨h1, h2, i_m1.mp h4⟩
  obtain ⟨i, hi, hbi, hxi⟩ := vb_e hn h1
  rw [hxi] at hg2
  have hok := (so.1.2 i hi).1
  obtain ⟨g1, g2, g3⟩ := b4 i (by omega)
  rw [df_in hi] at g1 g2 g3
  simp only [u_133_0, u_133_0n, u_133_1, u_133_2, u_133_5, u_133_8, u_133_9, u_133_10, u_133_13, u_133_16, u_133_19, u_133_22, u_133_23, u_133_24, pm_O_some, pm_w_nil, pm_w_i, pm_w_l, pm_w_r, pm_w_n, pm_c_n, pm_c_i, pm_c_l, pm_c_r, pm_c_u, Nat.reduceAdd, Nat.reduceLeDiff, true_and, Option.toList_some, Option.toList_none, List.cons_append, List.nil_append, c.io, s_isB c hn, s_in, wl (a := -600) (b := 900) (p := -600) (q := 900) rfl rfl, one0, ite_not, if_pos h1, if_pos h2, if_pos h4, i10, if_false]
  rw [hbi]
  simp only [u_133_42, u_133_45, u_133_45n, u_133_46, u_133_49, u_133_50, u_133_51, u_133_52, u_133_53, u_133_56, u_133_56n, u_133_57, u_133_60, u_133_61, u_133_62, u_133_63, u_133_64, u_133_65, u_133_65n, u_133_66, u_133_69, u_133_70, u_133_71, u_133_72, u_133_73, u_133_74, u_133_75, u_133_76, pm_O_some, pm_w_nil, pm_w_i, pm_w_l, pm_w_r, pm_w_n, pm_c_n, pm_c_i, pm_c_l, pm_c_r, pm_c_u, Nat.reduceAdd, Nat.reduceLeDiff, true_and, Option.toList_some, Option.toList_none, List.cons_append, List.nil_append, c.io, c.g16, c.g17, c.g18, b1, b2, b3, ld_i (t := 0) (ix_10 (show i < 10 by omega)) rfl, nI_clamp (show i < 2 ^ 31 by omega), g1, g2, g3]
  unfold fg fw at hg2
  unfold bgok at hok
  generalize (bs i).2.2.2.2.2.2.1 = jl at *
  generalize (bs i).2.2.2.2.2.2.2.1 = jg at *
  generalize (bs i).2.2.2.2.2.2.2.2 = jw at *
  have ev : (10000 : Int64) * jg.toInt64 - 12 * jl.toInt64 * (w - jw).toInt64 = lI (10000 * jg.toInt - 12 * jl.toInt * (w.toInt - jw.toInt)) := by
    rw [iL, iL, iL, i_sub (by omega) (by omega), show (10000 : Int64) = lI 10000 from rfl, show (12 : Int64) = lI 12 from rfl, lI_mul, lI_mul, lI_mul, lI_sub]
  rw [ev]
  have hbd : -2000000000000 ≤ 12 * jl.toInt * (w.toInt - jw.toInt) ∧ 12 * jl.toInt * (w.toInt - jw.toInt) ≤ 2000000000000 * 12 := by
    have t1 : (12 * jl.toInt * (w.toInt - jw.toInt)).natAbs ≤ 12000000 * 1500 := by
      rw [Int.natAbs_mul]
      exact Nat.mul_le_mul (by omega) (by omega)
    omega
  refine c_ofM (z := 10000 * jg.toInt - 12 * jl.toInt * (w.toInt - jw.toInt)) (by omega) (i_m1.mp h4) ?_
  simp only [u_133_79, pm_O_some, pm_w_nil, pm_w_i, pm_w_l, pm_w_r, pm_w_n, pm_c_n, pm_c_i, pm_c_l, pm_c_r, pm_c_u, Nat.reduceAdd, Nat.reduceLeDiff, true_and, Option.toList_some, Option.toList_none, List.cons_append, List.nil_append]
  exact hg2
theorem c_way (so : SO n bs ln tx nr sz tm nd dy nl lm ll jk) (n1 : MI B h m n bs ln tx nr sz tm nd dy nl lm ll jk) (hi : i < n) (hQ : Q (some (.long (lI (fw (bs i) (wy dy nd))))) h) : PW B X 137 0 [some (.ref m), some (.int (nI i)), none, none, none, none] [] h Q := by
  have hn := so.1.1
  have hd := so.2.2.2.1
  obtain ⟨⟨x8, x9, x13, jh, jm, x31, x32, c, cj⟩, a2, a3, a4, a5, a6, ⟨fl, fg', fw', b1, b2, b3, b4⟩, ⟨fd, d1, d2⟩, _⟩ := id n1
  obtain ⟨g1, g2, g3⟩ := b4 i (by omega)
  rw [df_in hi] at g1
  have hok := (so.1.2 i hi).1
  unfold bgok at hok
  have loop : ∀ d k w5, (k + 1) + d = nd → PW B X 137 5 [some (.ref m), some (.int (nI i)), some (.long (lI (fw (bs i) (wy dy (k + 1))))), none, some (.int (nI (k + 1))), w5] [] h Q := by
    intro d
    induction d with
    | zero =>
      intro k w5 hk
      obtain rfl : k + 1 = nd := by omega
      have e1 : nI (k + 1) ≤ nI (k + 1) := nI_le (Nat.le_refl _) (by omega)
      simp only [u_137_5, u_137_7, u_137_7n, u_137_8, u_137_11, u_137_68, u_137_69, pm_O_some, pm_w_nil, pm_w_i, pm_w_l, pm_w_r, pm_w_n, pm_c_n, pm_c_i, pm_c_l, pm_c_r, pm_c_u, Nat.reduceAdd, Nat.reduceLeDiff, true_and, Option.toList_some, Option.toList_none, List.cons_append, List.nil_append, c.g19, if_pos e1]
      exact hQ
    | succ d ih =>
      intro k w5 hk
      have e1 : ¬ nI nd ≤ nI (k + 1) := nI_ge (by omega) (by omega)
      have t1 := d2 (k + 1) (by omega)
      have t2 := d2 k (by omega)
      have u1 := hd.2 (k + 1) (by omega)
      have u2 := hd.2 k (by omega)
      have hdd : (fd (k + 1) - fd k).toInt = dy (k + 1) - dy k := by rw [i_sub (by omega) (by omega), t1, t2]
      have := ih (k + 1) (some (.int (fd (k + 1) - fd k))) (by omega)
      have ev : ∀ y : Int64, y = lI (((dy (k + 1) - dy k).natAbs : Nat) : Int) → lI (fw (bs i) (wy dy (k + 1))) + 12 * ((bs i).2.2.2.2.2.2.1).toInt64 * y = lI (fw (bs i) (wy dy (k + 1 + 1))) := by
        intro y hy
        rw [hy, iL, show (12 : Int64) = lI 12 from rfl, lI_mul, lI_mul, lI_add]
        unfold fw
        rw [show wy dy (k + 1 + 1) = wy dy (k + 1) + (dy (k + 1) - dy k).natAbs from rfl, Int.natCast_add, Int.mul_add]
      rw [u_137_5]
      by_cases cs : 0 ≤ fd (k + 1) - fd k
      · have c0 := i_le.mp cs
        rw [hdd] at c0
        change 0 ≤ _ at c0
        simp only [u_137_7, u_137_7n, u_137_8, u_137_11, u_137_14, u_137_14n, u_137_15, u_137_18, u_137_20, u_137_21, u_137_21n, u_137_22, u_137_25, u_137_27, u_137_28, u_137_29, u_137_30, u_137_31, u_137_33, u_137_34, u_137_37, u_137_37n, u_137_38, u_137_41, u_137_42, u_137_43, u_137_44, u_137_45, u_137_47, u_137_50, u_137_52, u_137_53, u_137_56, u_137_58, u_137_59, u_137_60, u_137_61, u_137_62, u_137_65, pm_O_some, pm_w_nil, pm_w_i, pm_w_l, pm_w_r, pm_w_n, pm_c_n, pm_c_i, pm_c_l, pm_c_r, pm_c_u, Nat.reduceAdd, Nat.reduceLeDiff, true_and, Option.toList_some, Option.toList_none, List.cons_append, List.nil_append, c.g19, c.g20, c.g16, if_neg e1, d1, b1, ld_i (t := 0) (ix_400 (show k + 1 < 400 by omega)) rfl, nI_pred, ld_i (t := 0) (ix_400 (show k < 400 by omega)) rfl, nI_clamp (show k < 2 ^ 31 by omega), nI_clamp (show k + 1 < 2 ^ 31 by omega), ld_i (t := 0) (ix_10 (show i < 10 by omega)) rfl, nI_clamp (show i < 2 ^ 31 by omega), g1, if_pos cs, nI_1]
        rw [ev _ (by rw [iL, hdd]; congr 1; omega)]
        exact this
      · have c0 := i_lt.mp (i_nle.mp cs)
        rw [hdd] at c0
        change _ < 0 at c0
        simp only [u_137_7, u_137_7n, u_137_8, u_137_11, u_137_14, u_137_14n, u_137_15, u_137_18, u_137_20, u_137_21, u_137_21n, u_137_22, u_137_25, u_137_27, u_137_28, u_137_29, u_137_30, u_137_31, u_137_33, u_137_34, u_137_37, u_137_37n, u_137_38, u_137_41, u_137_42, u_137_43, u_137_44, u_137_45, u_137_47, u_137_50, u_137_52, u_137_53, u_137_56, u_137_58, u_137_59, u_137_60, u_137_61, u_137_62, u_137_65, pm_O_some, pm_w_nil, pm_w_i, pm_w_l, pm_w_r, pm_w_n, pm_c_n, pm_c_i, pm_c_l, pm_c_r, pm_c_u, Nat.reduceAdd, Nat.reduceLeDiff, true_and, Option.toList_some, Option.toList_none, List.cons_append, List.nil_append, c.g19, c.g20, c.g16, if_neg e1, d1, b1, ld_i (t := 0) (ix_400 (show k + 1 < 400 by omega)) rfl, nI_pred, ld_i (t := 0) (ix_400 (show k < 400 by omega)) rfl, nI_clamp (show k < 2 ^ 31 by omega), nI_clamp (show k + 1 < 2 ^ 31 by omega), ld_i (t := 0) (ix_10 (show i < 10 by omega)) rfl, nI_clamp (show i < 2 ^ 31 by omega), g1, if_neg cs, nI_1]
        rw [ev _ (by rw [iL, i_neg (by omega), hdd]; congr 1; omega)]
        exact this
  have f0 : (0 : Int64) = lI (fw (bs i) (wy dy 1)) := by
    unfold fw
    rw [show ((wy dy 1 : Nat) : Int) = 0 from rfl, Int.mul_zero]
    rfl
  by_cases c0 : 1 ≤ nd
  · simp only [u_137_0, u_137_1, u_137_2, u_137_3, pm_O_some, pm_w_nil, pm_w_i, pm_w_l, pm_w_r, pm_w_n, pm_c_n, pm_c_i, pm_c_l, pm_c_r, pm_c_u, Nat.reduceAdd, Nat.reduceLeDiff, true_and, Option.toList_some, Option.toList_none, List.cons_append, List.nil_append]
    rw [f0]
    exact loop (nd - 1) 0 none (by omega)
  · obtain rfl : nd = 0 := by omega
    have e1 : nI 0 ≤ 1 := by decide
    simp only [u_137_0, u_137_1, u_137_2, u_137_3, u_137_5, u_137_7, u_137_7n, u_137_8, u_137_11, u_137_68, u_137_69, pm_O_some, pm_w_nil, pm_w_i, pm_w_l, pm_w_r, pm_w_n, pm_c_n, pm_c_i, pm_c_l, pm_c_r, pm_c_u, Nat.reduceAdd, Nat.reduceLeDiff, true_and, Option.toList_some, Option.toList_none, List.cons_append, List.nil_append, c.g19, if_pos e1]
    rw [f0]
    exact hQ
theorem wy_b {dy : Nat → Int} : ∀ {k : Nat}, (∀ i, i < k → -600 ≤ dy i ∧ dy i ≤ 900) → wy dy k ≤ 1500 * k
  | 0, _ => Nat.le_refl _
  | 1, _ => Nat.zero_le _
  | k + 2, h => by
    have := wy_b (dy := dy) (k := k + 1) (fun i hi => h i (by omega))
    have h1 := h (k + 1) (by omega)
    have h2 := h k (by omega)
    rw [wy]
    omega
theorem fw_b' (so : SO n bs ln tx nr sz tm nd dy nl lm ll jk) (hi : i < n) : 0 ≤ fw (bs i) (wy dy nd) ∧ fw (bs i) (wy dy nd) ≤ 7200000000000 := by
  have hok := (so.1.2 i hi).1
  unfold bgok at hok
  have hd := so.2.2.2.1
  have hw := wy_b (dy := dy) (k := nd) hd.2
  unfold fw
  obtain ⟨l, hl⟩ : ∃ l : Nat, (bs i).2.2.2.2.2.2.1.toInt = (l : Int) := ⟨(bs i).2.2.2.2.2.2.1.toInt.toNat, by omega⟩
  rw [hl] at hok ⊢
  have : 12 * l * wy dy nd ≤ 12 * 1000000 * 600000 := Nat.mul_le_mul (by omega) (by omega)
  have e : (12 * (l : Int) * (wy dy nd : Int)) = ((12 * l * wy dy nd : Nat) : Int) := by rw [Int.natCast_mul, Int.natCast_mul]; rfl
  rw [e]
  omega
theorem r_travel (so : SO n bs ln tx nr sz tm nd dy nl lm ll jk) (n1 : MI B h m n bs ln tx nr sz tm nd dy nl lm ll jk) (hg : vb n b ∧ -1 ≤ pt.toInt → Q (some (.long (prt (mkRat (fw (bs (ix b)) (wy dy nd)) 10000000) pt))) h)
    (hb : ¬ (vb n b ∧ -1 ≤ pt.toInt) → Q (some (.long (wrg pt))) h) :
    PW B X 136 0 [some (.ref m), some (.int b), some (.int pt)] [] h Q := by
  have hn := so.1.1
  obtain ⟨⟨x8, x9, x13, jh, jm, x31, x32, c, cj⟩, _⟩ := id n1
  have bad : ¬ (vb n b ∧ -1 ≤ pt.toInt) → PW B X 136 13 [some (.ref m), some (.int b), some (.int pt)] [] h Q := by
    intro z
    have hb2 := hb z
    unfold wrg at hb2
    by_cases c1 : pt = -1
    · rw [if_pos c1] at hb2
      simp only [u_136_13, u_136_14, u_136_15, u_136_18, u_136_21, u_136_24, u_136_27, pm_O_some, pm_w_nil, pm_w_i, pm_w_l, pm_w_r, pm_w_n, pm_c_n, pm_c_i, pm_c_l, pm_c_r, pm_c_u, Nat.reduceAdd, Nat.reduceLeDiff, true_and, Option.toList_some, Option.toList_none, List.cons_append, List.nil_append, c1, not_true, if_false]
      exact hb2
    · rw [if_neg c1] at hb2
      simp only [u_136_13, u_136_14, u_136_15, u_136_18, u_136_21, u_136_24, u_136_27, pm_O_some, pm_w_nil, pm_w_i, pm_w_l, pm_w_r, pm_w_n, pm_c_n, pm_c_i, pm_c_l, pm_c_r, pm_c_u, Nat.reduceAdd, Nat.reduceLeDiff, true_and, Option.toList_some, Option.toList_none, List.cons_append, List.nil_append, c1, not_false_eq_true, if_true]
      exact hb2
  by_cases h1 : ¬ (0 ≤ b.toInt ∧ b.toInt < (n : Int))
  · simp only [u_136_0, u_136_0n, u_136_1, u_136_2, u_136_5, pm_O_some, pm_w_nil, pm_w_i, pm_w_l, pm_w_r, pm_w_n, pm_c_n, pm_c_i, pm_c_l, pm_c_r, pm_c_u, Nat.reduceAdd, Nat.reduceLeDiff, true_and, Option.toList_some, Option.toList_none, List.cons_append, List.nil_append, c.io, s_isB c hn, one0, ite_not, if_neg h1]
    exact bad (fun z => h1 z.1)
  replace h1 := Decidable.not_not.mp h1
  by_cases h4 : ¬ (-1 ≤ pt)
  · simp only [u_136_0, u_136_0n, u_136_1, u_136_2, u_136_5, u_136_8, u_136_9, u_136_10, pm_O_some, pm_w_nil, pm_w_i, pm_w_l, pm_w_r, pm_w_n, pm_c_n, pm_c_i, pm_c_l, pm_c_r, pm_c_u, Nat.reduceAdd, Nat.reduceLeDiff, true_and, Option.toList_some, Option.toList_none, List.cons_append, List.nil_append, c.io, s_isB c hn, one0, ite_not, if_pos h1, if_neg h4]
    exact bad (fun z => h4 (i_m1.mpr z.2))
  replace h4 := Decidable.not_not.mp h4
  have hg2 := hg ⟨h1, i_m1.mp h4⟩
  obtain ⟨i, hi, hbi, hxi⟩ := vb_e hn h1
  rw [hxi] at hg2
  simp only [u_136_0, u_136_0n, u_136_1, u_136_2, u_136_5, u_136_8, u_136_9, u_136_10, pm_O_some, pm_w_nil, pm_w_i, pm_w_l, pm_w_r, pm_w_n, pm_c_n, pm_c_i, pm_c_l, pm_c_r, pm_c_u, Nat.reduceAdd, Nat.reduceLeDiff, true_and, Option.toList_some, Option.toList_none, List.cons_append, List.nil_append, c.io, s_isB c hn, one0, ite_not, if_pos h1, if_pos h4, i10, if_false]
  rw [hbi]
  simp only [u_136_28, u_136_28n, u_136_29, u_136_30, pm_O_some, pm_w_nil, pm_w_i, pm_w_l, pm_w_r, pm_w_n, pm_c_n, pm_c_i, pm_c_l, pm_c_r, pm_c_u, Nat.reduceAdd, Nat.reduceLeDiff, true_and, Option.toList_some, Option.toList_none, List.cons_append, List.nil_append, c.io]
  refine c_way so n1 hi ?_
  simp only [u_136_33, u_136_34, pm_O_some, pm_w_nil, pm_w_i, pm_w_l, pm_w_r, pm_w_n, pm_c_n, pm_c_i, pm_c_l, pm_c_r, pm_c_u, Nat.reduceAdd, Nat.reduceLeDiff, true_and, Option.toList_some, Option.toList_none, List.cons_append, List.nil_append]
  have hbd := fw_b' so hi
  refine c_ofM (z := fw (bs i) (wy dy nd)) (by omega) (i_m1.mp h4) ?_
  simp only [u_136_37, pm_O_some, pm_w_nil, pm_w_i, pm_w_l, pm_w_r, pm_w_n, pm_c_n, pm_c_i, pm_c_l, pm_c_r, pm_c_u, Nat.reduceAdd, Nat.reduceLeDiff, true_and, Option.toList_some, Option.toList_none, List.cons_append, List.nil_append]
  exact hg2
theorem r_dir (so : SO n bs ln tx nr sz tm nd dy nl lm ll jk) (n1 : MI B h m n bs ln tx nr sz tm nd dy nl lm ll jk) (hg : vb n b ∧ (ax = 0 ∨ ax = 1) ∧ (fho bs n).isSome → Q (some (.int (dirn bs (fo (fho bs n)) (ix b) ax))) h) (hb : ¬ (vb n b ∧ (ax = 0 ∨ ax = 1) ∧ (fho bs n).isSome) → Q (some (.int (-1))) h) :
    PW B X 131 0 [some (.ref m), some (.int b), some (.int ax), none, none, none, none] [] h Q := by
  have hn := so.1.1
  obtain ⟨⟨x8, x9, x13, jh, jm, x31, x32, c, cj⟩, ⟨fx, fy, b1, b2, b3⟩, ⟨fh, b4, b5⟩, _⟩ := id n1
  have hax : (0 ≤ ax.toInt ∧ ax.toInt ≤ 1) ↔ (ax = 0 ∨ ax = 1) := by
    constructor
    · intro z
      rcases (show ax.toInt = 0 ∨ ax.toInt = 1 by omega) with y | y
      · exact Or.inl (Int32.toInt_inj.mp y)
      · exact Or.inr (Int32.toInt_inj.mp y)
    · rintro (rfl | rfl) <;> decide
  have fin : ∀ f v4, (f = -1 ∧ fho bs n = none) ∨ (∃ j, j < n ∧ f = nI j ∧ fho bs n = some j) → PW B X 131 54 [some (.ref m), some (.int b), some (.int ax), some (.int f), some (.int v4), none, none] [] h Q := by
    intro f v4 hf
    by_cases h1 : ¬ (0 ≤ b.toInt ∧ b.toInt < (n : Int))
    · simp only [u_131_54, u_131_54n, u_131_55, u_131_56, u_131_59, u_131_77, u_131_78, pm_O_some, pm_w_nil, pm_w_i, pm_w_l, pm_w_r, pm_w_n, pm_c_n, pm_c_i, pm_c_l, pm_c_r, pm_c_u, Nat.reduceAdd, Nat.reduceLeDiff, true_and, Option.toList_some, Option.toList_none, List.cons_append, List.nil_append, c.io, s_isB c hn, one0, ite_not, if_neg h1]
      exact hb (fun z => h1 z.1)
    replace h1 := Decidable.not_not.mp h1
    by_cases h2 : ¬ (0 ≤ ax.toInt ∧ ax.toInt ≤ 1)
    · simp only [u_131_54, u_131_54n, u_131_55, u_131_56, u_131_59, u_131_62, u_131_63, u_131_64, u_131_65, u_131_66, u_131_69, u_131_72, u_131_73, u_131_74, u_131_77, u_131_78, pm_O_some, pm_w_nil, pm_w_i, pm_w_l, pm_w_r, pm_w_n, pm_c_n, pm_c_i, pm_c_l, pm_c_r, pm_c_u, Nat.reduceAdd, Nat.reduceLeDiff, true_and, Option.toList_some, Option.toList_none, List.cons_append, List.nil_append, c.io, s_isB c hn, s_in, wl (a := 0) (b := 1) (p := 0) (q := 1) rfl rfl, one0, ite_not, if_pos h1, if_neg h2]
      exact hb (fun z => h2 (hax.mpr z.2.1))
    replace h2 := Decidable.not_not.mp h2
    rcases hf with ⟨f1, f2⟩ | ⟨j, hj, f1, f2⟩
    · subst f1
      simp only [u_131_54, u_131_54n, u_131_55, u_131_56, u_131_59, u_131_62, u_131_63, u_131_64, u_131_65, u_131_66, u_131_69, u_131_72, u_131_73, u_131_74, u_131_77, u_131_78, pm_O_some, pm_w_nil, pm_w_i, pm_w_l, pm_w_r, pm_w_n, pm_c_n, pm_c_i, pm_c_l, pm_c_r, pm_c_u, Nat.reduceAdd, Nat.reduceLeDiff, true_and, Option.toList_some, Option.toList_none, List.cons_append, List.nil_append, c.io, s_isB c hn, s_in, wl (a := 0) (b := 1) (p := 0) (q := 1) rfl rfl, one0, ite_not, if_pos h1, if_pos h2, if_true]
      refine hb (fun z => ?_)
      rw [f2] at z
      exact absurd z.2.2 (by decide)
    · subst f1
      have ez : ¬ nI j = -1 := nI_nm (by omega)
      have hg2 := hg ⟨h1, hax.mp h2, by rw [f2]; rfl⟩
      rw [f2] at hg2
      obtain ⟨i, hi, hbi, hxi⟩ := vb_e hn h1
      rw [hxi] at hg2
      simp only [u_131_54, u_131_54n, u_131_55, u_131_56, u_131_59, u_131_62, u_131_63, u_131_64, u_131_65, u_131_66, u_131_69, u_131_72, u_131_73, u_131_74, pm_O_some, pm_w_nil, pm_w_i, pm_w_l, pm_w_r, pm_w_n, pm_c_n, pm_c_i, pm_c_l, pm_c_r, pm_c_u, Nat.reduceAdd, Nat.reduceLeDiff, true_and, Option.toList_some, Option.toList_none, List.cons_append, List.nil_append, c.io, s_isB c hn, s_in, wl (a := 0) (b := 1) (p := 0) (q := 1) rfl rfl, one0, ite_not, if_pos h1, if_pos h2, if_neg ez]
      rw [hbi]
      obtain ⟨i1, i2⟩ := b3 i hi
      obtain ⟨j1, j2⟩ := b3 j hj
      simp only [u_131_79, u_131_79n, u_131_80, u_131_83, u_131_84, u_131_85, u_131_85n, u_131_86, u_131_89, u_131_90, u_131_91, u_131_92, u_131_94, u_131_94n, u_131_95, u_131_98, u_131_99, u_131_100, u_131_100n, u_131_101, u_131_104, u_131_105, u_131_106, u_131_107, u_131_109, u_131_111, u_131_112, u_131_114, u_131_115, pm_O_some, pm_w_nil, pm_w_i, pm_w_l, pm_w_r, pm_w_n, pm_c_n, pm_c_i, pm_c_l, pm_c_r, pm_c_u, Nat.reduceAdd, Nat.reduceLeDiff, true_and, Option.toList_some, Option.toList_none, List.cons_append, List.nil_append, c.g1, c.g2, b1, b2, ld_i (t := 0) (ix_10 (show i < 10 by omega)) rfl, ld_i (t := 0) (ix_10 (show j < 10 by omega)) rfl, nI_clamp (show i < 2 ^ 31 by omega), nI_clamp (show j < 2 ^ 31 by omega), i1, i2, j1, j2]
      unfold dirn at hg2
      rw [show fo (some j) = j from rfl] at hg2
      have o1 := (so.1.2 i hi).1
      have o2 := (so.1.2 j hj).1
      unfold bgok at o1 o2
      generalize (bs i).1 = xi at *
      generalize (bs i).2.1 = yi at *
      generalize (bs j).1 = xj at *
      generalize (bs j).2.1 = yj at *
      have dx : (xi - xj).toInt = xi.toInt - xj.toInt := i_sub (by omega) (by omega)
      have dy' : (yi - yj).toInt = yi.toInt - yj.toInt := i_sub (by omega) (by omega)
      rw [iL, iL, c_divisor (by omega) (by omega), dx, dy']
      have hgl : Nat.gcd (xi.toInt - xj.toInt).natAbs (yi.toInt - yj.toInt).natAbs ≤ 200000 := by
        rcases Nat.eq_zero_or_pos (xi.toInt - xj.toInt).natAbs with z | z
        · rw [z, Nat.gcd_zero_left]; omega
        · exact Nat.le_trans (Nat.le_of_dvd z (Nat.gcd_dvd_left _ _)) (by omega)
      generalize Nat.gcd (xi.toInt - xj.toInt).natAbs (yi.toInt - yj.toInt).natAbs = g at *
      have e8 : (lN g).toInt32 = nI g := Int64.toInt32_ofNat'
      by_cases g0 : g = 0
      · have e9 : ¬ ¬ nI g = 0 := fun z => z (by rw [g0]; rfl)
        rw [if_pos g0] at hg2
        simp only [u_131_118, u_131_119, u_131_121, u_131_123, u_131_126, u_131_127, u_131_147, pm_O_some, pm_w_nil, pm_w_i, pm_w_l, pm_w_r, pm_w_n, pm_c_n, pm_c_i, pm_c_l, pm_c_r, pm_c_u, Nat.reduceAdd, Nat.reduceLeDiff, true_and, Option.toList_some, Option.toList_none, List.cons_append, List.nil_append, e8, if_neg e9]
        exact hg2
      · have e9 : ¬ nI g = 0 := mt (nI_e0 (by omega)).mp g0
        rw [if_neg g0] at hg2
        by_cases a0 : ax = 0
        · have a0' : ¬ ¬ ax = 0 := fun z => z a0
          rw [if_pos a0, ← dx] at hg2
          simp only [u_131_118, u_131_119, u_131_121, u_131_123, u_131_126, u_131_127, u_131_130, u_131_131, u_131_134, u_131_136, u_131_138, u_131_139, u_131_147, pm_O_some, pm_w_nil, pm_w_i, pm_w_l, pm_w_r, pm_w_n, pm_c_n, pm_c_i, pm_c_l, pm_c_r, pm_c_u, Nat.reduceAdd, Nat.reduceLeDiff, true_and, Option.toList_some, Option.toList_none, List.cons_append, List.nil_append, e8, if_pos e9, if_neg a0', e9, not_false_eq_true, i_tdiv (x := xi - xj) (g := g) (by omega) (by omega)]
          exact hg2
        · rw [if_neg a0, ← dy'] at hg2
          simp only [u_131_118, u_131_119, u_131_121, u_131_123, u_131_126, u_131_127, u_131_130, u_131_131, u_131_142, u_131_144, u_131_146, u_131_147, pm_O_some, pm_w_nil, pm_w_i, pm_w_l, pm_w_r, pm_w_n, pm_c_n, pm_c_i, pm_c_l, pm_c_r, pm_c_u, Nat.reduceAdd, Nat.reduceLeDiff, true_and, Option.toList_some, Option.toList_none, List.cons_append, List.nil_append, e8, if_pos e9, if_pos a0, e9, not_false_eq_true, i_tdiv (x := yi - yj) (g := g) (by omega) (by omega)]
          exact hg2
  have loop : ∀ k f, k ≤ n → (f = -1 ∧ ∀ j, k ≤ j → j < n → ¬ both (bs j)) ∨ (∃ j, k ≤ j ∧ j < n ∧ f = nI j ∧ both (bs j) ∧ ∀ e, k ≤ e → e < j → ¬ both (bs e)) → PW B X 131 10 [some (.ref m), some (.int b), some (.int ax), some (.int f), some (.int (nI k - 1)), none, none] [] h Q := by
    intro k
    induction k with
    | zero =>
      intro f hk hf
      have e1 : nI 0 - 1 < 0 := by decide
      simp only [u_131_10, u_131_12, pm_O_some, pm_w_nil, pm_w_i, pm_w_l, pm_w_r, pm_w_n, pm_c_n, pm_c_i, pm_c_l, pm_c_r, pm_c_u, Nat.reduceAdd, Nat.reduceLeDiff, true_and, Option.toList_some, Option.toList_none, List.cons_append, List.nil_append, if_pos e1]
      refine fin f _ ?_
      rcases hf with ⟨f1, f2⟩ | ⟨j, j1, j2, j3, j4, j5⟩
      · exact Or.inl ⟨f1, fho_none (fun j hj => f2 j (by omega) hj)⟩
      · exact Or.inr ⟨j, j2, j3, fho_least j2 j4 (fun e he => j5 e (by omega) he)⟩
    | succ k ih =>
      intro f hk hf
      have e1 : ¬ nI k < 0 := nI_pos (by omega)
      have x2 : (2 : Int32) * nI k = nI (2 * k) := pk_mul 2 k
      obtain ⟨h1, h2⟩ := b5 k (by omega)
      rw [df_in (by omega)] at h1 h2
      have keep : ¬ both (bs k) → PW B X 131 10 [some (.ref m), some (.int b), some (.int ax), some (.int f), some (.int (nI k - 1)), none, none] [] h Q := by
        intro nb
        refine ih f (by omega) ?_
        rcases hf with ⟨f1, f2⟩ | ⟨j, j1, j2, j3, j4, j5⟩
        · refine Or.inl ⟨f1, fun j hj hj2 => ?_⟩
          by_cases e : j = k
          · rw [e]; exact nb
          · exact f2 j (by omega) hj2
        · refine Or.inr ⟨j, by omega, j2, j3, j4, fun e he he2 => ?_⟩
          by_cases ee : e = k
          · rw [ee]; exact nb
          · exact j5 e (by omega) he2
      rw [u_131_10]
      by_cases c1 : (bs k).2.2.1 = 0
      · simp only [u_131_12, u_131_15, u_131_15n, u_131_16, u_131_19, u_131_20, u_131_22, u_131_23, u_131_24, u_131_46, u_131_47, u_131_48, u_131_51, pm_O_some, pm_w_nil, pm_w_i, pm_w_l, pm_w_r, pm_w_n, pm_c_n, pm_c_i, pm_c_l, pm_c_r, pm_c_u, Nat.reduceAdd, Nat.reduceLeDiff, true_and, Option.toList_some, Option.toList_none, List.cons_append, List.nil_append, nI_pred, if_neg e1, c.g3, b4, x2, ld_i (t := 3) (ix_20 (show 2 * k < 20 by omega)) rfl, nI_clamp (show 2 * k < 2 ^ 31 by omega), h1, c1, if_true, nI_sub1]
        exact keep (fun z => z.1 c1)
      · by_cases c2 : (bs k).2.2.2.1 = 0
        · simp only [u_131_12, u_131_15, u_131_15n, u_131_16, u_131_19, u_131_20, u_131_22, u_131_23, u_131_24, u_131_27, u_131_27n, u_131_28, u_131_31, u_131_32, u_131_34, u_131_35, u_131_36, u_131_37, u_131_38, u_131_41, u_131_43, u_131_46, u_131_47, u_131_48, u_131_51, pm_O_some, pm_w_nil, pm_w_i, pm_w_l, pm_w_r, pm_w_n, pm_c_n, pm_c_i, pm_c_l, pm_c_r, pm_c_u, Nat.reduceAdd, Nat.reduceLeDiff, true_and, Option.toList_some, Option.toList_none, List.cons_append, List.nil_append, nI_pred, if_neg e1, c.g3, b4, x2, nI_1, ld_i (t := 3) (ix_20 (show 2 * k < 20 by omega)) rfl, nI_clamp (show 2 * k < 2 ^ 31 by omega), ld_i (t := 3) (ix_20 (show 2 * k + 1 < 20 by omega)) rfl, nI_clamp (show 2 * k + 1 < 2 ^ 31 by omega), h1, h2, c1, c2, if_true, if_false, nI_sub1]
          exact keep (fun z => z.2 c2)
        · simp only [u_131_12, u_131_15, u_131_15n, u_131_16, u_131_19, u_131_20, u_131_22, u_131_23, u_131_24, u_131_27, u_131_27n, u_131_28, u_131_31, u_131_32, u_131_34, u_131_35, u_131_36, u_131_37, u_131_38, u_131_41, u_131_43, u_131_46, u_131_47, u_131_48, u_131_51, pm_O_some, pm_w_nil, pm_w_i, pm_w_l, pm_w_r, pm_w_n, pm_c_n, pm_c_i, pm_c_l, pm_c_r, pm_c_u, Nat.reduceAdd, Nat.reduceLeDiff, true_and, Option.toList_some, Option.toList_none, List.cons_append, List.nil_append, nI_pred, if_neg e1, c.g3, b4, x2, nI_1, ld_i (t := 3) (ix_20 (show 2 * k < 20 by omega)) rfl, nI_clamp (show 2 * k < 2 ^ 31 by omega), ld_i (t := 3) (ix_20 (show 2 * k + 1 < 20 by omega)) rfl, nI_clamp (show 2 * k + 1 < 2 ^ 31 by omega), h1, h2, c1, c2, if_false, nI_sub1]
          exact ih (nI k) (by omega) (Or.inr ⟨k, by omega, by omega, rfl, ⟨c1, c2⟩, fun e he he2 => by omega⟩)
  simp only [u_131_0, u_131_1, u_131_2, u_131_2n, u_131_3, u_131_6, u_131_7, u_131_8, pm_O_some, pm_w_nil, pm_w_i, pm_w_l, pm_w_r, pm_w_n, pm_c_n, pm_c_i, pm_c_l, pm_c_r, pm_c_u, Nat.reduceAdd, Nat.reduceLeDiff, true_and, Option.toList_some, Option.toList_none, List.cons_append, List.nil_append, c.g0]
  exact loop n (-1) (Nat.le_refl _) (Or.inl ⟨rfl, fun j hj hj2 => by omega⟩)
end ASK

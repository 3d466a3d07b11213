/-! THE REFERENCE: digits, partOf. -/
theorem dp_mono {f : Nat → Nat} {a : Nat} : ∀ {b : Nat}, a ≤ b → b ≤ 168 → dp f a ≤ dp f b
  | 0, h, _ => by obtain rfl : a = 0 := by omega
                  exact Nat.le_refl _
  | b + 1, h, hb => by
    by_cases e : a = b + 1
    · rw [e]; exact Nat.le_refl _
    · rw [dp]
      exact Nat.le_trans (dp_mono (by omega) (by omega)) (Nat.le_mul_of_pos_right _ (Nat.pow_pos (by have := pr_b (k := b) (by omega); omega)))
section PTS
variable {B : Nat} {X : pm_X} {h h' : pm_H} {Q : Option Value → pm_H → Prop} {m r k n j : Nat} {fl f : Nat → Int64} {fu fs fw : Nat → Int32} {g : Rg} {R R' : Nat → Rg} {q : Rat} {pt : Int32}
theorem c_digits (n1 : NS B h m R) (hr : r < 8) (hj : 2 * j + 1 < 2 ^ 31) : PW B X 124 0 [some (.ref m), some (.int (nI r)), some (.int (nI j)), none] [] h Q ↔ Q (some (.long (lN (d18 (R r).2.1 j)))) h := by
  obtain ⟨fl, fu, fs, fw, n2, n3⟩ := n1
  obtain ⟨u, hv, hu⟩ := (n3 r hr).rv
  have a1 := n2.2.2.1
  have e3 : (2 : Int32) * nI j = nI (2 * j) := pk_mul 2 j
  have hall := hv.all
  have hV := hv.ge hv.1 (Nat.le_refl 40)
  by_cases h6 : 2 * j + 1 < 40
  · have e2 : ¬ (40 : Int32) ≤ nI (2 * j + 1) := nI_ge (b := 40) h6 (by decide)
    have hval : fl (40 * r + 2 * j + 1) * 1000000000 + fl (40 * r + 2 * j) = lN (d18 (R r).2.1 j) := by
      have t1 : fl (40 * r + 2 * j) = lN ((R r).2.1 / 1000000000 ^ (2 * j) % 1000000000) := by
        have := nv_dig (i := 2 * j) hall
        rw [if_pos (by omega), hV] at this
        rw [this]
        exact (hall (2 * j) (by omega)).1
      have t2 : fl (40 * r + 2 * j + 1) = lN ((R r).2.1 / 1000000000 ^ (2 * j + 1) % 1000000000) := by
        have := nv_dig (i := 2 * j + 1) hall
        rw [if_pos (by omega), hV] at this
        rw [this]
        exact (hall (2 * j + 1) (by omega)).1
      rw [t1, t2, lB, lN_mul, lN_add]
      unfold d18
      rw [Nat.mod_mul, Nat.div_div_eq_div_mul, ← Nat.pow_succ, Nat.mul_comm 1000000000, Nat.add_comm]
    simp only [u_124_0, u_124_1, u_124_2, u_124_3, u_124_4, u_124_5, u_124_6, u_124_7, u_124_9, u_124_12, u_124_12n, u_124_13, u_124_16, u_124_18, u_124_19, u_124_20, u_124_21, u_124_22, u_124_23, u_124_24, u_124_25, u_124_28, u_124_29, u_124_29n, u_124_30, u_124_33, u_124_35, u_124_36, u_124_37, u_124_38, u_124_39, u_124_40, u_124_41, u_124_44, u_124_45, pm_O_some, pm_w_nil, pm_w_i, pm_w_l, pm_w_r, pm_w_n, pm_c_n, pm_c_i, pm_c_l, pm_c_r, pm_c_u, Nat.reduceAdd, Nat.reduceLeDiff, true_and, Option.toList_some, Option.toList_none, List.cons_append, List.nil_append, e3, nI_1, if_neg e2, n2.f27, a1, x40, ld_l (ix_320 (show 40 * r + 2 * j < 320 by omega)), ld_l (ix_320 (show 40 * r + 2 * j + 1 < 320 by omega)), nI_clamp (show 40 * r + 2 * j < 2 ^ 31 by omega), nI_clamp (show 40 * r + 2 * j + 1 < 2 ^ 31 by omega), hval]
  · have e2 : (40 : Int32) ≤ nI (2 * j + 1) := nI_le (a := 40) (by omega) (by omega)
    have hz : d18 (R r).2.1 j = 0 := by
      have h1 := nv_lt (f := fun k => fl (40 * r + k)) (n := 40) (fun i hi => (hall i hi).2)
      rw [hV] at h1
      have h2 : 1000000000 ^ 40 ≤ 1000000000 ^ (2 * j) := Nat.pow_le_pow_right (by decide) (by omega)
      unfold d18
      rw [Nat.div_eq_of_lt (by omega), Nat.zero_mod]
    simp only [u_124_0, u_124_1, u_124_2, u_124_3, u_124_4, u_124_5, u_124_6, u_124_7, u_124_9, u_124_12, u_124_12n, u_124_13, u_124_16, u_124_18, u_124_19, u_124_20, u_124_21, u_124_22, u_124_23, u_124_24, u_124_25, u_124_28, u_124_29, u_124_29n, u_124_30, u_124_33, u_124_35, u_124_36, u_124_37, u_124_38, u_124_39, u_124_40, u_124_41, u_124_44, u_124_45, pm_O_some, pm_w_nil, pm_w_i, pm_w_l, pm_w_r, pm_w_n, pm_c_n, pm_c_i, pm_c_l, pm_c_r, pm_c_u, Nat.reduceAdd, Nat.reduceLeDiff, true_and, Option.toList_some, Option.toList_none, List.cons_append, List.nil_append, e3, nI_1, if_pos e2, hz]
    exact Iff.rfl
theorem c_partOf (n1 : NS B h m R) (rq : rgq (R r) q) (hr : r < 6) (hd : q.den < 1000000000 ^ 39) (hp : -1 ≤ pt.toInt) (hQ : ∀ h' R', NS B h' m R' → (∀ j, ¬ j = 6 → R' j = R j) → Frm B h h' (m + 18) (m + 22) → Q (some (.long (prt q pt))) h') : PW B X 123 0 [some (.ref m), some (.int (nI r)), some (.int pt), none, none] [] h Q := by
  unfold prt at hQ
  by_cases hm : pt = -1
  · subst hm
    obtain ⟨fl, fu, fs, fw, v1, v2⟩ := id n1
    have a3 := v1.2.2.2.2.1
    have f4 : fs r = sg q.num := by
      obtain ⟨_, _, _, _, _, _, _, a7, _⟩ := v2 r (by omega)
      rw [a7, rq.1]
    have e0 : ¬ (0 : Int32) ≤ -1 := by decide
    simp only [u_123_0, u_123_1, u_123_4, u_123_4n, u_123_5, u_123_8, u_123_9, u_123_10, u_123_11, pm_O_some, pm_w_nil, pm_w_i, pm_w_l, pm_w_r, pm_w_n, pm_c_n, pm_c_i, pm_c_l, pm_c_r, pm_c_u, Nat.reduceAdd, Nat.reduceLeDiff, true_and, Option.toList_some, Option.toList_none, List.cons_append, List.nil_append, if_neg e0, v1.f29, a3, ld8 (show r < 8 by omega) rfl, f4]
    exact hQ h R n1 (fun _ _ => rfl) Frm.rfl'
  · have hp0 : 0 ≤ pt.toInt := by
      have : pt.toInt ≠ -1 := fun z => hm (Int32.toInt_inj.mp z)
      omega
    simp only [if_neg hm] at hQ
    have k3 := nI_ix hp0
    have k4 := ix_T hp0
    have hlt : pt.toInt < 2 ^ 31 := Int32.toInt_lt pt
    generalize ix pt = p at k3 k4 hQ
    subst k3
    have e0 : (0 : Int32) ≤ nI p := nI_pos' (by omega)
    simp only [u_123_0, u_123_1, u_123_12, u_123_12n, u_123_13, u_123_15, u_123_16, pm_O_some, pm_w_nil, pm_w_i, pm_w_l, pm_w_r, pm_w_n, pm_c_n, pm_c_i, pm_c_l, pm_c_r, pm_c_u, Nat.reduceAdd, Nat.reduceLeDiff, true_and, Option.toList_some, Option.toList_none, List.cons_append, List.nil_append, if_pos e0, n1.io]
    refine c_set (r := 6) (v := 1) n1 (by omega) (by decide) (fun h1 n2 F1 => ?_)
    have hR6 : (ups R 6 (sg (1 : Int32).toInt, (1 : Int32).toInt.natAbs, fun _ => 0) 6).2.1 = 1 := rfl
    have hRo : ∀ j, ¬ j = 6 → ups R 6 (sg (1 : Int32).toInt, (1 : Int32).toInt.natAbs, fun _ => 0) j = R j := fun j hj => ups_n hj
    generalize ups R 6 (sg (1 : Int32).toInt, (1 : Int32).toInt.natAbs, fun _ => 0) = R1 at n2 hR6 hRo
    have hD : dp (R r).2.2 168 < 1000000000 ^ 39 := by rw [rq.2.2]; exact hd
    have outer : ∀ d k hc R' w4, k + d = 168 → NS B hc m R' → (R' 6).2.1 = dp (R r).2.2 k → (∀ j, ¬ j = 6 → R' j = R j) → Frm B h hc (m + 18) (m + 22) → PW B X 123 21 [some (.ref m), some (.int (nI r)), some (.int (nI p)), some (.int (nI k)), w4] [] hc Q := by
      intro d
      induction d with
      | zero =>
        intro k hc R' w4 hk m1 i1 i2 m2
        obtain rfl : k = 168 := by omega
        have e1 : (168 : Int32) ≤ nI 168 := by decide
        have e2 : ¬ (2 : Int32) = 0 := by decide
        have er : nI p - nI p / 2 * 2 = nI (p % 2) := nI_rem (b := 2) (by omega) (by omega) (by omega)
        have ed : nI p / 2 = nI (p / 2) := nI_div (b := 2) (by omega) (by omega) (by omega)
        rw [rq.2.2] at i1
        by_cases c : p % 2 = 0
        · have e3 : nI (p % 2) = 0 := by rw [c]; rfl
          rw [if_pos c] at hQ
          simp only [u_123_21, u_123_22, u_123_25, u_123_72, u_123_72n, u_123_73, u_123_74, u_123_75, u_123_76, pm_O_some, pm_w_nil, pm_w_i, pm_w_l, pm_w_r, pm_w_n, pm_c_n, pm_c_i, pm_c_l, pm_c_r, pm_c_u, Nat.reduceAdd, Nat.reduceLeDiff, true_and, Option.toList_some, Option.toList_none, List.cons_append, List.nil_append, if_pos e1, e2, not_false_eq_true, er, e3, not_true, if_false]
          simp only [u_123_79, u_123_80, u_123_83, u_123_85, u_123_86, u_123_87, u_123_88, pm_O_some, pm_w_nil, pm_w_i, pm_w_l, pm_w_r, pm_w_n, pm_c_n, pm_c_i, pm_c_l, pm_c_r, pm_c_u, Nat.reduceAdd, Nat.reduceLeDiff, true_and, Option.toList_some, Option.toList_none, List.cons_append, List.nil_append, e2, not_false_eq_true, ed, m1.io]
          refine (c_digits m1 (by omega) (by omega)).mpr ?_
          simp only [u_123_91, pm_O_some, pm_w_nil, pm_w_i, pm_w_l, pm_w_r, pm_w_n, pm_c_n, pm_c_i, pm_c_l, pm_c_r, pm_c_u, Nat.reduceAdd, Nat.reduceLeDiff, true_and, Option.toList_some, Option.toList_none, List.cons_append, List.nil_append]
          rw [i2 r (by omega), rq.2.1]
          exact hQ hc R' m1 i2 m2
        · have e3 : ¬ nI (p % 2) = 0 := mt (nI_e0 (by omega)).mp c
          rw [if_neg c] at hQ
          simp only [u_123_21, u_123_22, u_123_25, u_123_72, u_123_72n, u_123_73, u_123_74, u_123_75, u_123_76, pm_O_some, pm_w_nil, pm_w_i, pm_w_l, pm_w_r, pm_w_n, pm_c_n, pm_c_i, pm_c_l, pm_c_r, pm_c_u, Nat.reduceAdd, Nat.reduceLeDiff, true_and, Option.toList_some, Option.toList_none, List.cons_append, List.nil_append, if_pos e1, e2, not_false_eq_true, er, e3, if_true]
          simp only [u_123_83, u_123_85, u_123_86, u_123_87, u_123_88, pm_O_some, pm_w_nil, pm_w_i, pm_w_l, pm_w_r, pm_w_n, pm_c_n, pm_c_i, pm_c_l, pm_c_r, pm_c_u, Nat.reduceAdd, Nat.reduceLeDiff, true_and, Option.toList_some, Option.toList_none, List.cons_append, List.nil_append, e2, not_false_eq_true, ed, m1.io]
          refine (c_digits (r := 6) m1 (by omega) (by omega)).mpr ?_
          simp only [u_123_91, pm_O_some, pm_w_nil, pm_w_i, pm_w_l, pm_w_r, pm_w_n, pm_c_n, pm_c_i, pm_c_l, pm_c_r, pm_c_u, Nat.reduceAdd, Nat.reduceLeDiff, true_and, Option.toList_some, Option.toList_none, List.cons_append, List.nil_append]
          rw [i1]
          exact hQ hc R' m1 i2 m2
      | succ d ih =>
        intro k hc R' w4 hk m1 i1 i2 m2
        have hk1 : k < 168 := by omega
        have e1 : ¬ (168 : Int32) ≤ nI k := nI_ge (b := 168) (by omega) (by decide)
        have hpk := pr_b hk1
        have inner : ∀ e x hc R', x + e = (R r).2.2 k → NS B hc m R' → (R' 6).2.1 = dp (R r).2.2 k * pr k ^ x → (∀ j, ¬ j = 6 → R' j = R j) → Frm B h hc (m + 18) (m + 22) → PW B X 123 31 [some (.ref m), some (.int (nI r)), some (.int (nI p)), some (.int (nI k)), some (.int (nI x))] [] hc Q := by
          intro e
          induction e with
          | zero =>
            intro x hc R' hx m1 i1 i2 m2
            have m1' := m1
            obtain ⟨fl, fu, fs, fw, n2, n3⟩ := m1
            have a4 := n2.2.2.2.2.2
            obtain ⟨w1, w2⟩ := (n3 r (by omega)).pw hk1
            rw [i2 r (by omega)] at w1 w2
            have e2 : nI ((R r).2.2 k) ≤ nI x := nI_le (by omega) (by omega)
            simp only [u_123_31, u_123_33, u_123_33n, u_123_34, u_123_37, u_123_40, u_123_41, u_123_42, u_123_43, u_123_44, u_123_45, u_123_66, u_123_69, pm_O_some, pm_w_nil, pm_w_i, pm_w_l, pm_w_r, pm_w_n, pm_c_n, pm_c_i, pm_c_l, pm_c_r, pm_c_u, Nat.reduceAdd, Nat.reduceLeDiff, true_and, Option.toList_some, Option.toList_none, List.cons_append, List.nil_append, n2.f30, a4, x168, ld_i (t := 0) (ix_1344 (show 168 * r + k < 1344 by omega)) rfl, nI_clamp (show 168 * r + k < 2 ^ 31 by omega), w1, if_pos e2, nI_1]
            refine ih (k + 1) hc R' _ (by omega) m1' ?_ i2 m2
            rw [i1, dp, ← hx, Nat.add_zero]
          | succ e ihe =>
            intro x hc R' hx m1 i1 i2 m2
            have m1' := m1
            obtain ⟨fl, fu, fs, fw, n2, n3⟩ := m1
            have a4 := n2.2.2.2.2.2
            obtain ⟨fp, p1, p2⟩ := n2.2.1
            obtain ⟨w1, w2⟩ := (n3 r (by omega)).pw hk1
            rw [i2 r (by omega)] at w1 w2
            have e2 : ¬ nI ((R r).2.2 k) ≤ nI x := nI_ge (by omega) (by omega)
            have hb : (R' 6).2.1 * pr k ≤ dp (R r).2.2 168 := by
              rw [i1, Nat.mul_assoc, ← Nat.pow_succ]
              refine Nat.le_trans ?_ (dp_mono (show k + 1 ≤ 168 by omega) (Nat.le_refl _))
              rw [dp]
              exact Nat.mul_le_mul_left _ (Nat.pow_le_pow_right (by omega) (by omega))
            have l39 : 1000000000 ^ 39 ≤ 1000000000 ^ 40 := by decide +kernel
            rw [u_123_31]
            simp only [u_123_33, u_123_33n, u_123_34, u_123_37, u_123_40, u_123_41, u_123_42, u_123_43, u_123_44, u_123_45, u_123_48, u_123_48n, u_123_49, u_123_51, u_123_51n, u_123_52, u_123_55, u_123_56, u_123_57, pm_O_some, pm_w_nil, pm_w_i, pm_w_l, pm_w_r, pm_w_n, pm_c_n, pm_c_i, pm_c_l, pm_c_r, pm_c_u, Nat.reduceAdd, Nat.reduceLeDiff, true_and, Option.toList_some, Option.toList_none, List.cons_append, List.nil_append, n2.f30, a4, x168, ld_i (t := 0) (ix_1344 (show 168 * r + k < 1344 by omega)) rfl, nI_clamp (show 168 * r + k < 2 ^ 31 by omega), w1, if_neg e2, n2.f26, p1, ld_i (t := 0) (ix_168 hk1) rfl, nI_clamp (show k < 2 ^ 31 by omega), p2 k hk1, n2.io]
            refine c_times (r := 6) m1' (by omega) (by omega) (by omega) (by omega) (fun h2 m3 F3 => ?_)
            simp only [u_123_60, u_123_63, pm_O_some, pm_w_nil, pm_w_i, pm_w_l, pm_w_r, pm_w_n, pm_c_n, pm_c_i, pm_c_l, pm_c_r, pm_c_u, Nat.reduceAdd, Nat.reduceLeDiff, true_and, Option.toList_some, Option.toList_none, List.cons_append, List.nil_append, nI_1]
            refine ihe (x + 1) h2 _ (by omega) m3 ?_ ?_ (m2.trans F3)
            · rw [ups_s]
              show (R' 6).2.1 * pr k = _
              rw [i1, Nat.mul_assoc, ← Nat.pow_succ]
            · intro j hj
              rw [ups_n hj]
              exact i2 j hj
        simp only [u_123_21, u_123_22, u_123_25, u_123_28, u_123_29, pm_O_some, pm_w_nil, pm_w_i, pm_w_l, pm_w_r, pm_w_n, pm_c_n, pm_c_i, pm_c_l, pm_c_r, pm_c_u, Nat.reduceAdd, Nat.reduceLeDiff, true_and, Option.toList_some, Option.toList_none, List.cons_append, List.nil_append, if_neg e1]
        exact inner _ 0 hc R' (Nat.zero_add _) m1 (by rw [i1, Nat.pow_zero, Nat.mul_one]) i2 m2
    simp only [u_123_19, u_123_20, pm_O_some, pm_w_nil, pm_w_i, pm_w_l, pm_w_r, pm_w_n, pm_c_n, pm_c_i, pm_c_l, pm_c_r, pm_c_u, Nat.reduceAdd, Nat.reduceLeDiff, true_and, Option.toList_some, Option.toList_none, List.cons_append, List.nil_append]
    exact outer 168 0 h1 R1 none (by omega) n2 hR6 hRo F1
end PTS

/-! NATURALS, d: compare, eighteenDigits; Integer.compare, Long.compare. -/
def ci (V W : Nat) : Int32 := if V < W then -1 else if V = W then 0 else 1
theorem nv_ge {f : Nat → Int64} {n : Nat} (hl : lok f (n + 1)) (hn : nrm f (n + 1)) : 1000000000 ^ n ≤ nv f (n + 1) := by
  have h1 := nrm_top hn
  have h2 := hl n (by omega)
  have h3 : 0 < dg f n := by
    rcases Nat.eq_zero_or_pos (dg f n) with z | z
    · rw [z] at h2; exact absurd h2.1 h1
    · exact z
  rw [nv]
  have := Nat.le_mul_of_pos_left (1000000000 ^ n) h3
  omega
theorem nv_ltk {f g : Nat → Int64} {k : Nat} (hl : ∀ i, i < k → dg f i < 1000000000) (h : dg f k < dg g k) : nv f (k + 1) < nv g (k + 1) := by
  have h1 := nv_lt (f := f) (n := k) hl
  rw [nv, nv]
  have h2 : (dg f k + 1) * 1000000000 ^ k ≤ dg g k * 1000000000 ^ k := Nat.mul_le_mul_right _ h
  rw [Nat.add_mul, Nat.one_mul] at h2
  omega
theorem nv_ext {f g : Nat → Int64} {k : Nat} (h : nv f k < nv g k) : ∀ r, (∀ j, k ≤ j → j < k + r → dg f j = dg g j) → nv f (k + r) < nv g (k + r)
  | 0, _ => h
  | r + 1, hj => by
    have := nv_ext h r (fun j h1 h2 => hj j h1 (by omega))
    rw [← Nat.add_assoc, nv, nv, hj (k + r) (by omega) (by omega)]
    omega
theorem nv_lt_of {f g : Nat → Int64} {n k : Nat} (hk : k < n) (hl : ∀ i, i < n → dg f i < 1000000000) (h : dg f k < dg g k) (hs : ∀ j, k < j → j < n → dg f j = dg g j) : nv f n < nv g n := by
  have h1 := nv_ltk (k := k) (fun i hi => hl i (by omega)) h
  have := nv_ext h1 (n - (k + 1)) (fun j h2 h3 => hs j (by omega) (by omega))
  rw [show k + 1 + (n - (k + 1)) = n by omega] at this
  exact this
section NT
variable {B : Nat} {X : pm_X} {h : pm_H} {Q : Option Value → pm_H → Prop} {a b n k q : Nat} {f g : Nat → Int64} {x y : Int32} {z w : Int64}
theorem s_icompare : PW B X 51 0 [some (.int x), some (.int y)] [] h Q ↔ Q (some (.int (if x < y then -1 else if x = y then 0 else 1))) h := by
  by_cases h1 : x < y
  · have h2 : ¬ y ≤ x := Int32.not_le.mpr h1
    simp only [u_51_0, u_51_1, u_51_2, u_51_5, u_51_6, u_51_9, u_51_10, u_51_11, u_51_14, u_51_15, u_51_18, u_51_19, pm_O_some, pm_w_nil, pm_w_i, pm_w_l, pm_w_r, pm_w_n, pm_c_n, pm_c_i, pm_c_l, pm_c_r, pm_c_u, Nat.reduceAdd, Nat.reduceLeDiff, true_and, Option.toList_some, Option.toList_none, List.cons_append, List.nil_append, if_neg h2, if_pos h1]
  · have h2 : y ≤ x := Int32.not_lt.mp h1
    by_cases h3 : x = y
    · subst h3
      simp only [u_51_0, u_51_1, u_51_2, u_51_5, u_51_6, u_51_9, u_51_10, u_51_11, u_51_14, u_51_15, u_51_18, u_51_19, pm_O_some, pm_w_nil, pm_w_i, pm_w_l, pm_w_r, pm_w_n, pm_c_n, pm_c_i, pm_c_l, pm_c_r, pm_c_u, Nat.reduceAdd, Nat.reduceLeDiff, true_and, Option.toList_some, Option.toList_none, List.cons_append, List.nil_append, if_pos h2, if_neg h1, not_true, if_true, if_false]
    · simp only [u_51_0, u_51_1, u_51_2, u_51_5, u_51_6, u_51_9, u_51_10, u_51_11, u_51_14, u_51_15, u_51_18, u_51_19, pm_O_some, pm_w_nil, pm_w_i, pm_w_l, pm_w_r, pm_w_n, pm_c_n, pm_c_i, pm_c_l, pm_c_r, pm_c_u, Nat.reduceAdd, Nat.reduceLeDiff, true_and, Option.toList_some, Option.toList_none, List.cons_append, List.nil_append, if_pos h2, if_neg h1, h3, not_false_eq_true, if_true, if_false]
theorem s_lcompare : PW B X 52 0 [some (.long z), none, some (.long w), none] [] h Q ↔ Q (some (.int (if z < w then -1 else if z = w then 0 else 1))) h := by
  by_cases h1 : z < w
  · have h2 : ¬ w ≤ z := Int64.not_le.mpr h1
    simp only [u_52_0, u_52_1, u_52_2, u_52_3, u_52_6, u_52_7, u_52_10, u_52_11, u_52_12, u_52_13, u_52_16, u_52_17, u_52_20, u_52_21, pm_O_some, pm_w_nil, pm_w_i, pm_w_l, pm_w_r, pm_w_n, pm_c_n, pm_c_i, pm_c_l, pm_c_r, pm_c_u, Nat.reduceAdd, Nat.reduceLeDiff, true_and, Option.toList_some, Option.toList_none, List.cons_append, List.nil_append, lg_cmp_ge, if_neg h2, if_pos h1]
  · have h2 : w ≤ z := Int64.not_lt.mp h1
    by_cases h3 : z = w
    · subst h3
      simp only [u_52_0, u_52_1, u_52_2, u_52_3, u_52_6, u_52_7, u_52_10, u_52_11, u_52_12, u_52_13, u_52_16, u_52_17, u_52_20, u_52_21, pm_O_some, pm_w_nil, pm_w_i, pm_w_l, pm_w_r, pm_w_n, pm_c_n, pm_c_i, pm_c_l, pm_c_r, pm_c_u, Nat.reduceAdd, Nat.reduceLeDiff, true_and, Option.toList_some, Option.toList_none, List.cons_append, List.nil_append, lg_cmp_ge, lg_cmp_eq, if_pos h2, if_neg h1, not_true, if_true, if_false]
    · simp only [u_52_0, u_52_1, u_52_2, u_52_3, u_52_6, u_52_7, u_52_10, u_52_11, u_52_12, u_52_13, u_52_16, u_52_17, u_52_20, u_52_21, pm_O_some, pm_w_nil, pm_w_i, pm_w_l, pm_w_r, pm_w_n, pm_c_n, pm_c_i, pm_c_l, pm_c_r, pm_c_u, Nat.reduceAdd, Nat.reduceLeDiff, true_and, Option.toList_some, Option.toList_none, List.cons_append, List.nil_append, lg_cmp_ge, lg_cmp_eq, if_pos h2, if_neg h1, h3, not_false_eq_true, if_true, if_false]
theorem ci_l {c d : Nat} (hc : c < 2 ^ 63) (hd : d < 2 ^ 63) : (if lN c < lN d then (-1 : Int32) else if lN c = lN d then 0 else 1) = ci c d := by
  unfold ci
  simp only [pk_lLT hc hd, pk_lEQ hc hd]
theorem ci_i {c d : Nat} (hc : c < 2 ^ 31) (hd : d < 2 ^ 31) : (if nI c < nI d then (-1 : Int32) else if nI c = nI d then 0 else 1) = ci c d := by
  unfold ci
  simp only [nI_ltI hc hd, nI_eq hc hd]
theorem ci_ln {c d : Nat} (hc : c < 2 ^ 63) (hd : d < 2 ^ 63) (hn : c ≠ d) : (if lN c < lN d then (-1 : Int32) else 1) = ci c d := by
  unfold ci
  simp only [pk_lLT hc hd, hn, if_false]
theorem ci_in {c d : Nat} (hc : c < 2 ^ 31) (hd : d < 2 ^ 31) (hn : c ≠ d) : (if nI c < nI d then (-1 : Int32) else 1) = ci c d := by
  unfold ci
  simp only [nI_ltI hc hd, hn, if_false]
theorem s_ncompare {m : Nat} (h1 : pm_at B h a = some (.inr (5, [.ref (a + 1), .int (nI n)]))) (h2 : pm_at B h (a + 1) = some (.inl (1, 12, .inr (.inl f)))) (h3 : pm_at B h b = some (.inr (5, [.ref (b + 1), .int (nI m)]))) (h4 : pm_at B h (b + 1) = some (.inl (1, 12, .inr (.inl g))))
    (hl : lok f n) (hn : n ≤ 12) (hr : nrm f n) (hl2 : lok g m) (hm : m ≤ 12) (hr2 : nrm g m) : PW B X 50 0 [some (.ref a), some (.ref b), none] [] h Q ↔ Q (some (.int (ci (nv f n) (nv g m)))) h := by
  by_cases hnm : n = m
  · subst hnm
    have loop : ∀ k, k ≤ n → (∀ j, k ≤ j → j < n → f j = g j) → (PW B X 50 30 [some (.ref a), some (.ref b), some (.int (nI k - 1))] [] h Q ↔ Q (some (.int (ci (nv f n) (nv g n)))) h) := by
      intro k
      induction k with
      | zero =>
        intro _ hs
        have e1 : nI 0 - 1 < 0 := by decide
        have e : nv f n = nv g n := nv_congr (fun i hi => dg_eq (hs i (by omega) hi))
        simp only [u_50_0, u_50_0n, u_50_1, u_50_4, u_50_4n, u_50_5, u_50_8, u_50_11, u_50_11n, u_50_12, u_50_15, u_50_15n, u_50_16, u_50_19, u_50_22, u_50_23, u_50_23n, u_50_24, u_50_27, u_50_28, u_50_29, u_50_30, u_50_31, u_50_34, u_50_34n, u_50_35, u_50_38, u_50_39, u_50_40, u_50_40n, u_50_41, u_50_44, u_50_45, u_50_46, u_50_47, u_50_50, u_50_50n, u_50_51, u_50_54, u_50_55, u_50_56, u_50_56n, u_50_57, u_50_60, u_50_61, u_50_62, u_50_65, u_50_66, u_50_69, u_50_72, u_50_73, pm_O_some, pm_w_nil, pm_w_i, pm_w_l, pm_w_r, pm_w_n, pm_c_n, pm_c_i, pm_c_l, pm_c_r, pm_c_u, Nat.reduceAdd, Nat.reduceLeDiff, true_and, Option.toList_some, Option.toList_none, List.cons_append, List.nil_append, if_pos e1, e, ci, Nat.lt_irrefl, if_false, if_true]
      | succ k ih =>
        intro hk hs
        have e1 : ¬ nI k < 0 := nI_pos (by omega)
        have hd := hl k (by omega)
        have hd2 := hl2 k (by omega)
        rw [u_50_30]
        by_cases he : f k = g k
        · simp only [u_50_31, u_50_34, u_50_34n, u_50_35, u_50_38, u_50_39, u_50_40, u_50_40n, u_50_41, u_50_44, u_50_45, u_50_46, u_50_47, u_50_66, u_50_69, pm_O_some, pm_w_nil, pm_w_i, pm_w_l, pm_w_r, pm_w_n, pm_c_n, pm_c_i, pm_c_l, pm_c_r, pm_c_u, Nat.reduceAdd, Nat.reduceLeDiff, true_and, Option.toList_some, Option.toList_none, List.cons_append, List.nil_append, nI_pred, if_neg e1, h1, h2, h3, h4, gf_5_0, gf_5_1, ld_l (pm_ix_of (show k < 12 by omega) (by decide)), nI_clamp (show k < 2 ^ 31 by omega), nI_sub1, lg_cmp_eq, he, if_true]
          exact ih (by omega) (fun j h5 h6 => by
            by_cases hj : j = k
            · rw [hj]; exact he
            · exact hs j (by omega) h6)
        · simp only [u_50_31, u_50_34, u_50_34n, u_50_35, u_50_38, u_50_39, u_50_40, u_50_40n, u_50_41, u_50_44, u_50_45, u_50_46, u_50_47, u_50_50, u_50_50n, u_50_51, u_50_54, u_50_55, u_50_56, u_50_56n, u_50_57, u_50_60, u_50_61, u_50_62, u_50_65, pm_O_some, pm_w_nil, pm_w_i, pm_w_l, pm_w_r, pm_w_n, pm_c_n, pm_c_i, pm_c_l, pm_c_r, pm_c_u, Nat.reduceAdd, Nat.reduceLeDiff, true_and, Option.toList_some, Option.toList_none, List.cons_append, List.nil_append, nI_pred, if_neg e1, h1, h2, h3, h4, gf_5_0, gf_5_1, ld_l (pm_ix_of (show k < 12 by omega) (by decide)), nI_clamp (show k < 2 ^ 31 by omega), lg_cmp_eq, he, if_false, s_lcompare]
          have hne : dg f k ≠ dg g k := fun z => he (by rw [hd.1, hd2.1, z])
          rw [hd.1, hd2.1, ci_ln (by omega) (by omega) hne]
          have : ci (dg f k) (dg g k) = ci (nv f n) (nv g n) := by
            unfold ci
            rcases Nat.lt_or_gt_of_ne hne with z | z
            · rw [if_pos z, if_pos (nv_lt_of (by omega) (fun i hi => (hl i hi).2) z (fun j h5 h6 => dg_eq (hs j (by omega) h6)))]
            · have := nv_lt_of (f := g) (g := f) (show k < n by omega) (fun i hi => (hl2 i hi).2) z (fun j h5 h6 => (dg_eq (hs j (by omega) h6)).symm)
              rw [if_neg (by omega), if_neg hne, if_neg (by omega), if_neg (by omega)]
          rw [this]
    simp only [u_50_0, u_50_0n, u_50_1, u_50_4, u_50_4n, u_50_5, u_50_8, u_50_23, u_50_23n, u_50_24, u_50_27, u_50_28, u_50_29, pm_O_some, pm_w_nil, pm_w_i, pm_w_l, pm_w_r, pm_w_n, pm_c_n, pm_c_i, pm_c_l, pm_c_r, pm_c_u, Nat.reduceAdd, Nat.reduceLeDiff, true_and, Option.toList_some, Option.toList_none, List.cons_append, List.nil_append, h1, h3, gf_5_1, if_true]
    exact loop n (Nat.le_refl _) (fun j h5 h6 => absurd h6 (by omega))
  · have e1 : ¬ nI n = nI m := fun z => hnm ((nI_eq (by omega) (by omega)).mp z)
    simp only [u_50_0, u_50_0n, u_50_1, u_50_4, u_50_4n, u_50_5, u_50_8, u_50_11, u_50_11n, u_50_12, u_50_15, u_50_15n, u_50_16, u_50_19, u_50_22, pm_O_some, pm_w_nil, pm_w_i, pm_w_l, pm_w_r, pm_w_n, pm_c_n, pm_c_i, pm_c_l, pm_c_r, pm_c_u, Nat.reduceAdd, Nat.reduceLeDiff, true_and, Option.toList_some, Option.toList_none, List.cons_append, List.nil_append, h1, h3, gf_5_1, if_neg e1, s_icompare]
    rw [ci_in (by omega) (by omega) hnm]
    have : ci n m = ci (nv f n) (nv g m) := by
      unfold ci
      rcases Nat.lt_or_gt_of_ne hnm with z | z
      · obtain ⟨m, rfl⟩ : ∃ m', m = m' + 1 := ⟨m - 1, by omega⟩
        have t1 := nv_lt (f := f) (n := n) (fun i hi => (hl i hi).2)
        have t2 := nv_ge hl2 hr2
        have t3 : 1000000000 ^ n ≤ 1000000000 ^ m := Nat.pow_le_pow_right (by decide) (by omega)
        rw [if_pos z, if_pos (by omega)]
      · obtain ⟨n, rfl⟩ : ∃ n', n = n' + 1 := ⟨n - 1, by omega⟩
        have t1 := nv_lt (f := g) (n := m) (fun i hi => (hl2 i hi).2)
        have t2 := nv_ge hl hr
        have t3 : 1000000000 ^ m ≤ 1000000000 ^ n := Nat.pow_le_pow_right (by decide) (by omega)
        rw [if_neg (by omega), if_neg hnm, if_neg (by omega), if_neg (by omega)]
    rw [this]
theorem nv_split {f : Nat → Int64} {n : Nat} : ∀ {k : Nat}, k ≤ n → nv f n = nv f k + 1000000000 ^ k * hv f n k
  | 0, _ => by rw [hv_0]; simp [nv]
  | k + 1, hk => by
    rw [nv_split (k := k) (by omega), hv_step (show k < n by omega), nv, Nat.mul_add, Nat.pow_succ, Nat.mul_comm (dg f k), ← Nat.mul_assoc]
    omega
theorem nv_dig {f : Nat → Int64} {n i : Nat} (hl : lok f n) : nv f n / 1000000000 ^ i % 1000000000 = if i < n then dg f i else 0 := by
  by_cases h : i < n
  · rw [if_pos h, nv_split (Nat.le_of_lt h), Nat.add_comm, Nat.mul_add_div (Nat.pow_pos (by decide)), Nat.div_eq_of_lt (nv_lt (fun j hj => (hl j (by omega)).2)), Nat.add_zero, hv_step h, Nat.add_mul_mod_self_left, Nat.mod_eq_of_lt (hl i h).2]
  · rw [if_neg h]
    have h1 := nv_lt (f := f) (n := n) (fun j hj => (hl j hj).2)
    have h2 : 1000000000 ^ n ≤ 1000000000 ^ i := Nat.pow_le_pow_right (by decide) (by omega)
    rw [Nat.div_eq_of_lt (by omega)]
/-- eighteen digits of a number -/
def d18 (V j : Nat) : Nat := V / 1000000000 ^ (2 * j) % (1000000000 * 1000000000)
theorem s_eighteen {j : Nat} (h1 : pm_at B h a = some (.inr (5, [.ref (a + 1), .int (nI n)]))) (h2 : pm_at B h (a + 1) = some (.inl (1, 12, .inr (.inl f)))) (hl : lok f n) (hn : n ≤ 12) (hj : j < 2 ^ 31) :
    PW B X 62 0 [some (.ref a), some (.int (nI j))] [] h Q ↔ Q (some (.long (lN (d18 (nv f n) j)))) h := by
  have e1 : ¬ nI j < 0 := nI_pos hj
  by_cases h6 : j < 6
  · have e2 : nI j < 6 := nI_lt (b := 6) h6 (by decide)
    have e3 : (2 : Int32) * nI j = nI (2 * j) := pk_mul 2 j
    have hval : (if 2 * j < n then f (2 * j) else 0) + (if 2 * j + 1 < n then f (2 * j + 1) else 0) * 1000000000 = lN (d18 (nv f n) j) := by
      have t1 : (if 2 * j < n then f (2 * j) else 0) = lN (nv f n / 1000000000 ^ (2 * j) % 1000000000) := by
        rw [nv_dig hl]
        split
        · exact (hl _ (by assumption)).1
        · rfl
      have t2 : (if 2 * j + 1 < n then f (2 * j + 1) else 0) = lN (nv f n / 1000000000 ^ (2 * j + 1) % 1000000000) := by
        rw [nv_dig hl]
        split
        · exact (hl _ (by assumption)).1
        · rfl
      rw [t1, t2, lB, lN_mul, lN_add]
      unfold d18
      rw [Nat.mod_mul, Nat.div_div_eq_div_mul, ← Nat.pow_succ, Nat.mul_comm 1000000000]
    simp only [u_62_0, u_62_1, u_62_4, u_62_5, u_62_7, u_62_10, u_62_11, u_62_12, u_62_12n, u_62_13, u_62_14, u_62_15, u_62_16, u_62_19, u_62_19n, u_62_20, u_62_21, u_62_22, u_62_23, u_62_24, u_62_25, u_62_28, u_62_31, u_62_32, u_62_33, pm_O_some, pm_w_nil, pm_w_i, pm_w_l, pm_w_r, pm_w_n, pm_c_n, pm_c_i, pm_c_l, pm_c_r, pm_c_u, Nat.reduceAdd, Nat.reduceLeDiff, true_and, Option.toList_some, Option.toList_none, List.cons_append, List.nil_append, if_neg e1, if_pos e2, e3, nI_1, pm_io_of h1, s_limbAt h1 h2 hn (show 2 * j < 2 ^ 31 by omega), s_limbAt h1 h2 hn (show 2 * j + 1 < 2 ^ 31 by omega), hval]
  · have e2 : ¬ nI j < 6 := nI_nlt (b := 6) (by omega) hj
    have hz : d18 (nv f n) j = 0 := by
      have t1 := nv_lt (f := f) (n := n) (fun j hj => (hl j hj).2)
      have t2 : 1000000000 ^ n ≤ 1000000000 ^ (2 * j) := Nat.pow_le_pow_right (by decide) (by omega)
      unfold d18
      rw [Nat.div_eq_of_lt (by omega)]
    simp only [u_62_0, u_62_1, u_62_4, u_62_5, u_62_7, u_62_10, u_62_11, u_62_12, u_62_12n, u_62_13, u_62_14, u_62_15, u_62_16, u_62_19, u_62_19n, u_62_20, u_62_21, u_62_22, u_62_23, u_62_24, u_62_25, u_62_28, u_62_31, u_62_32, u_62_33, pm_O_some, pm_w_nil, pm_w_i, pm_w_l, pm_w_r, pm_w_n, pm_c_n, pm_c_i, pm_c_l, pm_c_r, pm_c_u, Nat.reduceAdd, Nat.reduceLeDiff, true_and, Option.toList_some, Option.toList_none, List.cons_append, List.nil_append, if_neg e1, if_neg e2, hz]
    exact Iff.rfl
end NT

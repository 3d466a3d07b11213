/-! NATURALS, f: putProduct. -/
section NT
variable {B : Nat} {X : pm_X} {h : pm_H} {Q : Option Value → pm_H → Prop} {a b c n k q : Nat} {f g u : Nat → Int64} {x y : Int32} {z w : Int64}
theorem s_nprod {m : Nat} (v : nok B h a) (h1 : pm_at B h b = some (.inr (5, [.ref (b + 1), .int (nI n)]))) (h2 : pm_at B h (b + 1) = some (.inl (1, 12, .inr (.inl f)))) (h3 : pm_at B h c = some (.inr (5, [.ref (c + 1), .int (nI m)]))) (h4 : pm_at B h (c + 1) = some (.inl (1, 12, .inr (.inl g))))
    (d : ¬ b = a ∧ ¬ b = a + 1 ∧ ¬ b + 1 = a) (d2 : ¬ c = a ∧ ¬ c = a + 1 ∧ ¬ c + 1 = a) (hl : lok f n) (hl2 : lok g m) (hnm : n + m ≤ 12) (hQ : ∀ f' n', lok f' n' → n' ≤ 12 → nrm f' n' → nv f' n' = nv f n * nv g m → Q none (nset B h a f' (nI n'))) :
    PW B X 58 0 [some (.ref a), some (.ref b), some (.ref c), none, none, none, none, none, none] [] (nset B h a u x) Q := by
  have r1 : ∀ {f x}, pm_at B (nset B h a f x) b = some (.inr (5, [.ref (b + 1), .int (nI n)])) := by
    intro f x
    rw [ns_ne v d.1 d.2.1, h1]
  have r2 : ∀ {u x}, pm_at B (nset B h a u x) (b + 1) = some (.inl (1, 12, .inr (.inl f))) := by
    intro f x
    rw [ns_ne v d.2.2 (by omega), h2]
  have r3 : ∀ {f x}, pm_at B (nset B h a f x) c = some (.inr (5, [.ref (c + 1), .int (nI m)])) := by
    intro f x
    rw [ns_ne v d2.1 d2.2.1, h3]
  have r4 : ∀ {f x}, pm_at B (nset B h a f x) (c + 1) = some (.inl (1, 12, .inr (.inl g))) := by
    intro f x
    rw [ns_ne v d2.2.2 (by omega), h4]
  obtain ⟨s, hs⟩ : ∃ s, s = n + m := ⟨_, rfl⟩
  have hmin : (if (12 : Int32) < nI s then (12 : Int32) else nI s) = nI s := if_neg (nI_nlt (a := 12) (by omega) (by decide))
  have hWlt : ∀ j, nv (lz g m) j < 1000000000 ^ j := fun j => nv_lt (fun i hi => (lz_ok (m := j) hl2 i hi).2)
  -- the rows
  have inner : ∀ r i j cc F w7 w8, j + r = m + 1 → i < n → cc < 1000000000 → lok F s → (∀ p, i + m ≤ p → p < s → i + j ≤ p → F p = 0) → (j = m + 1 → cc = 0) → nv F s + cc * 1000000000 ^ (i + j) = nv f i * nv g m + dg f i * nv (lz g m) j * 1000000000 ^ i →
      (∀ F' w4 w6 w7 w8, lok F' s → (∀ p, i + 1 + m ≤ p → p < s → F' p = 0) → nv F' s = nv f (i + 1) * nv g m → PW B X 58 134 [some (.ref a), some (.ref b), some (.ref c), some (.int (nI i)), w4, none, w6, w7, w8] [] (nset B h a F' (nI s)) Q) →
      PW B X 58 57 [some (.ref a), some (.ref b), some (.ref c), some (.int (nI i)), some (.long (lN cc)), none, some (.int (nI j)), w7, w8] [] (nset B h a F (nI s)) Q := by
    intro r
    induction r with
    | zero =>
      intro i j cc F w7 w8 hj hi hc hF hz hcz hv k
      obtain rfl : j = m + 1 := by omega
      have e1 : nI m < nI (m + 1) := nI_lt (by omega) (by omega)
      rw [hcz rfl, lz_nv' (by omega)] at hv
      simp only [u_58_57, u_58_59, u_58_59n, u_58_60, u_58_63, pm_O_some, pm_w_nil, pm_w_i, pm_w_l, pm_w_r, pm_w_n, pm_c_n, pm_c_i, pm_c_l, pm_c_r, pm_c_u, Nat.reduceAdd, Nat.reduceLeDiff, true_and, Option.toList_some, Option.toList_none, List.cons_append, List.nil_append, r3, gf_5_1, if_pos e1]
      refine k F _ _ _ _ hF (fun p p1 p2 => hz p (by omega) p2 (by omega)) ?_
      rw [nv, Nat.add_mul, Nat.mul_right_comm (dg f i) (1000000000 ^ i)]
      omega
    | succ r ih =>
      intro i j cc F w7 w8 hj hi hc hF hz hcz hv k
      have e1 : ¬ nI m < nI j := nI_nlt (by omega) (by omega)
      have hp : i + j < s := by omega
      have e2 : ¬ nI s ≤ nI (i + j) := nI_ge hp (by omega)
      have hd := hF (i + j) hp
      have hfd := hl i hi
      have t2 : (if j < m then g j else 0) = lN (dg (lz g m) j) := (lz_ok (m := j + 1) hl2 j (by omega)).1
      have b2 := (lz_ok (m := j + 1) hl2 j (by omega)).2
      have hdm : dg f i * dg (lz g m) j ≤ (1000000000 - 1) * (1000000000 - 1) := Nat.mul_le_mul (by omega) (by omega)
      have hsm : dg F (i + j) + dg f i * dg (lz g m) j + cc < 2 ^ 63 := by omega
      rw [u_58_57]
      simp only [u_58_59, u_58_59n, u_58_60, u_58_63, u_58_66, u_58_67, u_58_69, u_58_70, u_58_70n, u_58_71, u_58_74, u_58_77, u_58_77n, u_58_78, u_58_81, u_58_82, u_58_84, u_58_85, u_58_86, u_58_86n, u_58_87, u_58_90, u_58_91, u_58_92, u_58_92n, u_58_93, u_58_95, u_58_98, u_58_99, u_58_100, u_58_102, u_58_103, u_58_105, u_58_105n, u_58_106, u_58_109, u_58_110, u_58_112, u_58_113, u_58_115, u_58_118, u_58_119, u_58_120, u_58_122, u_58_125, u_58_126, u_58_128, u_58_131, pm_O_some, pm_w_nil, pm_w_i, pm_w_l, pm_w_r, pm_w_n, pm_c_n, pm_c_i, pm_c_l, pm_c_r, pm_c_u, Nat.reduceAdd, Nat.reduceLeDiff, true_and, Option.toList_some, Option.toList_none, List.cons_append, List.nil_append, ns_at0 v, ns_at1 v, ns_s1 v, r1, r2, r3, gf_5_0, gf_5_1, if_neg e1, nI_add, if_neg e2, pm_io_of r3, s_limbAt r3 r4 (show m ≤ 12 by omega) (show j < 2 ^ 31 by omega), ld_l (pm_ix_of (show i + j < 12 by omega) (by decide)), ld_l (pm_ix_of (show i < 12 by omega) (by decide)), st_l (pm_ix_of (show i + j < 12 by omega) (by decide)), nI_clamp (show i + j < 2 ^ 31 by omega), nI_clamp (show i < 2 ^ 31 by omega), lB0, not_false_eq_true]
      rw [hd.1, hfd.1, t2, lN_mul, lN_add, lN_add, lB, pk_lRem hsm (by decide) (by decide), pk_lDiv hsm (by decide) (by decide), nI_1]
      have e := Nat.div_add_mod (dg F (i + j) + dg f i * dg (lz g m) j + cc) 1000000000
      have hq : (dg F (i + j) + dg f i * dg (lz g m) j + cc) / 1000000000 < 1000000000 := Nat.div_lt_of_lt_mul (by omega)
      have hrlt := Nat.mod_lt (dg F (i + j) + dg f i * dg (lz g m) j + cc) (show 0 < 1000000000 by decide)
      have hup := nv_upd (f := F) (p := i + j) (d := (dg F (i + j) + dg f i * dg (lz g m) j + cc) % 1000000000) (by omega) hp
      refine ih i (j + 1) _ _ _ _ (by omega) hi hq (lok_up hF hrlt) (fun p p1 p2 p3 => by rw [pk_uLn (by omega)]; exact hz p p1 p2 (by omega)) ?_ ?_ k
      · intro hj1
        have hjm : j = m := by omega
        have z1 : dg F (i + j) = 0 := dg_0 (hz (i + j) (by omega) hp (Nat.le_refl _))
        have z2 : dg (lz g m) j = 0 := dg_0 (lz_out (by omega))
        rw [z1, z2]
        exact Nat.div_eq_of_lt (by omega)
      · generalize (dg F (i + j) + dg f i * dg (lz g m) j + cc) / 1000000000 = qq at e ⊢
        generalize (dg F (i + j) + dg f i * dg (lz g m) j + cc) % 1000000000 = rr at e hup ⊢
        rw [nv, show i + (j + 1) = (i + j) + 1 from rfl, Nat.pow_succ, Nat.mul_add, Nat.add_mul]
        have e3 : qq * (1000000000 ^ (i + j) * 1000000000) = (1000000000 * qq) * 1000000000 ^ (i + j) := by rw [Nat.mul_comm (1000000000 ^ (i + j)) 1000000000, ← Nat.mul_assoc, Nat.mul_comm qq 1000000000]
        have e4 : (1000000000 * qq + rr) * 1000000000 ^ (i + j) = (dg F (i + j) + dg f i * dg (lz g m) j + cc) * 1000000000 ^ (i + j) := by rw [e]
        have e5 : dg f i * (dg (lz g m) j * 1000000000 ^ j) * 1000000000 ^ i = dg f i * dg (lz g m) j * 1000000000 ^ (i + j) := by
          rw [Nat.pow_add, Nat.mul_comm (1000000000 ^ i), ← Nat.mul_assoc, ← Nat.mul_assoc]
        rw [Nat.add_mul, Nat.add_mul, Nat.add_mul] at e4
        rw [e3, e5]
        omega
  have outer : ∀ r i F w4 w6 w7 w8, i + r = n → lok F s → (∀ p, i + m ≤ p → p < s → F p = 0) → nv F s = nv f i * nv g m →
      PW B X 58 43 [some (.ref a), some (.ref b), some (.ref c), some (.int (nI i)), w4, none, w6, w7, w8] [] (nset B h a F (nI s)) Q := by
    intro r
    induction r with
    | zero =>
      intro i F w4 w6 w7 w8 hi hF hz hv
      obtain rfl : i = n := by omega
      have e2 : nI i ≤ nI i := nI_le (Nat.le_refl _) (by omega)
      simp only [u_58_43, u_58_44, u_58_44n, u_58_45, u_58_48, u_58_140, u_58_140n, u_58_141, u_58_144, pm_O_some, pm_w_nil, pm_w_i, pm_w_l, pm_w_r, pm_w_n, pm_c_n, pm_c_i, pm_c_l, pm_c_r, pm_c_u, Nat.reduceAdd, Nat.reduceLeDiff, true_and, Option.toList_some, Option.toList_none, List.cons_append, List.nil_append, r1, gf_5_1, if_pos e2, pm_io_of (ns_at0 v), s_trim v (show s ≤ 12 by omega)]
      exact hQ F _ (lok_mono hF (tl_le _ _)) (Nat.le_trans (tl_le _ _) (by omega)) (tl_tl _ _) (by rw [nv_tl, hv])
    | succ r ih =>
      intro i F w4 w6 w7 w8 hi hF hz hv
      have e2 : ¬ nI n ≤ nI i := nI_ge (by omega) (by omega)
      rw [u_58_43]
      simp only [u_58_44, u_58_44n, u_58_45, u_58_48, u_58_51, u_58_52, u_58_54, u_58_55, pm_O_some, pm_w_nil, pm_w_i, pm_w_l, pm_w_r, pm_w_n, pm_c_n, pm_c_i, pm_c_l, pm_c_r, pm_c_u, Nat.reduceAdd, Nat.reduceLeDiff, true_and, Option.toList_some, Option.toList_none, List.cons_append, List.nil_append, r1, gf_5_1, if_neg e2]
      refine inner (m + 1) i 0 0 F _ _ (by omega) (by omega) (by decide) hF (fun p p1 p2 _ => hz p p1 p2) (fun z => rfl) (by simp [nv, hv]) ?_
      intro F' w4 w6 w7 w8 q1 q2 q3
      simp only [u_58_134, u_58_137, pm_O_some, pm_w_nil, pm_w_i, pm_w_l, pm_w_r, pm_w_n, pm_c_n, pm_c_i, pm_c_l, pm_c_r, pm_c_u, Nat.reduceAdd, Nat.reduceLeDiff, true_and, Option.toList_some, Option.toList_none, List.cons_append, List.nil_append, nI_1]
      exact ih (i + 1) F' _ _ _ _ (by omega) q1 q2 q3
  have zero : ∀ r i F, i + r = s → (∀ p, p < i → F p = 0) → PW B X 58 20 [some (.ref a), some (.ref b), some (.ref c), some (.int (nI i)), none, none, none, none, none] [] (nset B h a F (nI s)) Q := by
    intro r
    induction r with
    | zero =>
      intro i F hi hz
      obtain rfl : i = s := by omega
      have e2 : nI i ≤ nI i := nI_le (Nat.le_refl _) (by omega)
      simp only [u_58_20, u_58_21, u_58_21n, u_58_22, u_58_25, u_58_28, u_58_28n, u_58_29, u_58_32, u_58_33, u_58_34, u_58_35, u_58_38, u_58_41, u_58_42, pm_O_some, pm_w_nil, pm_w_i, pm_w_l, pm_w_r, pm_w_n, pm_c_n, pm_c_i, pm_c_l, pm_c_r, pm_c_u, Nat.reduceAdd, Nat.reduceLeDiff, true_and, Option.toList_some, Option.toList_none, List.cons_append, List.nil_append, ns_at0 v, gf_5_1, if_pos e2]
      refine outer n 0 F _ _ _ _ (by omega) (fun p hp => ?_) (fun p _ hp => hz p hp) ?_
      · rw [dg_0 (hz p hp), hz p hp]; exact ⟨rfl, by decide⟩
      · have : nv F i = nv (lz F 0) i := nv_congr (fun p hp => by rw [dg_0 (hz p hp), dg_0 (lz_out (by omega))])
        rw [this, lz_nv' (by omega)]
        simp [nv]
    | succ r ih =>
      intro i F hi hz
      have e2 : ¬ nI s ≤ nI i := nI_ge (by omega) (by omega)
      rw [u_58_20]
      simp only [u_58_21, u_58_21n, u_58_22, u_58_25, u_58_28, u_58_28n, u_58_29, u_58_32, u_58_33, u_58_34, u_58_35, u_58_38, pm_O_some, pm_w_nil, pm_w_i, pm_w_l, pm_w_r, pm_w_n, pm_c_n, pm_c_i, pm_c_l, pm_c_r, pm_c_u, Nat.reduceAdd, Nat.reduceLeDiff, true_and, Option.toList_some, Option.toList_none, List.cons_append, List.nil_append, ns_at0 v, ns_at1 v, ns_s1 v, gf_5_0, gf_5_1, if_neg e2, st_l (pm_ix_of (show i < 12 by omega) (by decide)), nI_clamp (show i < 2 ^ 31 by omega), nI_1]
      refine ih (i + 1) _ (by omega) (fun p hp => ?_)
      by_cases hpi : p = i
      · subst hpi; rw [pk_uLs]
      · rw [pk_uLn hpi]; exact hz p (by omega)
  simp only [u_58_0, u_58_0n, u_58_1, u_58_1n, u_58_2, u_58_5, u_58_5n, u_58_6, u_58_9, u_58_10, u_58_12, u_58_15, u_58_18, u_58_19, pm_O_some, pm_w_nil, pm_w_i, pm_w_l, pm_w_r, pm_w_n, pm_c_n, pm_c_i, pm_c_l, pm_c_r, pm_c_u, Nat.reduceAdd, Nat.reduceLeDiff, true_and, Option.toList_some, Option.toList_none, List.cons_append, List.nil_append, ns_at0 v, ns_s0, pf_5_1, r1, r3, gf_5_1, nI_add, ← hs, hmin]
  exact zero s 0 u (by omega) (fun p hp => absurd hp (by omega))
end NT

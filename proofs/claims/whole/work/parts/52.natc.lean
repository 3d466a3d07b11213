/-! NATURALS, c: put, copy, remainder, divide, compare, eighteenDigits. -/
theorem tl_congr {f g : Nat → Int64} : ∀ {n : Nat}, (∀ i, i < n → f i = g i) → tl f n = tl g n
  | 0, _ => rfl
  | n + 1, h => by
    rw [tl, tl, h n (by omega), tl_congr (fun i hi => h i (by omega))]
theorem nrm_of {f : Nat → Int64} {n : Nat} (h : n = 0 ∨ f (n - 1) ≠ 0) : nrm f n := by
  unfold nrm
  cases n with
  | zero => rfl
  | succ n =>
    have : f n ≠ 0 := h.resolve_left (by omega)
    simp [tl, this]
theorem nrm_top {f : Nat → Int64} {n : Nat} (h : nrm f (n + 1)) : f n ≠ 0 := by
  intro z
  unfold nrm at h
  rw [tl, if_pos z] at h
  have := tl_le f n
  omega
theorem dg_eq {f g : Nat → Int64} {i : Nat} (h : f i = g i) : dg f i = dg g i := by unfold dg; rw [h]
section NT
variable {B : Nat} {X : pm_X} {h : pm_H} {Q : Option Value → pm_H → Prop} {a b n k q : Nat} {f g : Nat → Int64} {x y : Int32}
theorem s_nput {V : Nat} (v : nok B h a) (hV : V < 2 ^ 63) (hQ : ∀ f' n', lok f' n' → n' ≤ 12 → nrm f' n' → nv f' n' = V → Q none (nset B h a f' (nI n'))) :
    PW B X 9 0 [some (.ref a), some (.long (lN V)), none, none, none, none] [] (nset B h a f x) Q := by
  have loop : ∀ r i c fi, i + r = 12 → c < 2 ^ 63 → lok fi i → (c = 0 → nrm fi i) → nv fi i + c * 1000000000 ^ i = V →
      PW B X 9 10 [some (.ref a), some (.long (lN V)), none, some (.long (lN c)), none, some (.int (nI i))] [] (nset B h a fi (nI i)) Q := by
    intro r
    induction r with
    | zero =>
      intro i c fi hi hc hl hz hv
      have hi12 : i = 12 := by omega
      have hc0 : c = 0 := by
        rcases Nat.eq_zero_or_pos c with z | z
        · exact z
        · exfalso
          have h9 : 1 * 1000000000 ^ 3 ≤ c * 1000000000 ^ i := Nat.mul_le_mul z (Nat.pow_le_pow_right (by decide) (by omega))
          have h8 : c * 1000000000 ^ i ≤ V := by rw [← hv]; exact Nat.le_add_left _ _
          omega
      have e2 : (12 : Int32) ≤ nI i := by rw [hi12]; decide
      simp only [u_9_10, u_9_12, u_9_14, u_9_44, pm_O_some, pm_w_nil, pm_w_i, pm_w_l, pm_w_r, pm_w_n, pm_c_n, pm_c_i, pm_c_l, pm_c_r, pm_c_u, Nat.reduceAdd, Nat.reduceLeDiff, true_and, Option.toList_some, Option.toList_none, List.cons_append, List.nil_append, if_pos e2]
      exact hQ fi i hl (by omega) (hz hc0) (by rw [← hv, hc0]; simp)
    | succ r ih =>
      intro i c fi hi hc hl hz hv
      have e2 : ¬ (12 : Int32) ≤ nI i := nI_ge (b := 12) (by omega) (by decide)
      rw [u_9_10]
      simp only [u_9_12, u_9_14, u_9_17, u_9_18, u_9_19, u_9_20, u_9_44, pm_O_some, pm_w_nil, pm_w_i, pm_w_l, pm_w_r, pm_w_n, pm_c_n, pm_c_i, pm_c_l, pm_c_r, pm_c_u, Nat.reduceAdd, Nat.reduceLeDiff, true_and, Option.toList_some, Option.toList_none, List.cons_append, List.nil_append, if_neg e2, lg_cmp_le, l_le0 hc]
      by_cases hc0 : c = 0
      · rw [if_pos hc0]
        exact hQ fi i hl (by omega) (hz hc0) (by rw [← hv, hc0]; simp)
      · rw [if_neg hc0]
        simp only [u_9_23, u_9_23n, u_9_24, u_9_25, u_9_28, u_9_29, u_9_32, u_9_33, u_9_36, u_9_37, u_9_38, u_9_41, pm_O_some, pm_w_nil, pm_w_i, pm_w_l, pm_w_r, pm_w_n, pm_c_n, pm_c_i, pm_c_l, pm_c_r, pm_c_u, Nat.reduceAdd, Nat.reduceLeDiff, true_and, Option.toList_some, Option.toList_none, List.cons_append, List.nil_append, lB0, not_false_eq_true, pm_io_of (ns_at0 v)]
        rw [lB, pk_lRem hc (by decide) (by decide), pk_lDiv hc (by decide) (by decide), s_append v (by omega)]
        simp only [u_9_32, u_9_33, u_9_36, u_9_37, u_9_38, u_9_41, pm_O_some, pm_w_nil, pm_w_i, pm_w_l, pm_w_r, pm_w_n, pm_c_n, pm_c_i, pm_c_l, pm_c_r, pm_c_u, Nat.reduceAdd, Nat.reduceLeDiff, true_and, Option.toList_some, Option.toList_none, List.cons_append, List.nil_append, lB0, not_false_eq_true, nI_1]
        refine ih (i + 1) _ _ (by omega) (Nat.lt_of_le_of_lt (Nat.div_le_self _ _) hc) (lok_push hl (Nat.mod_lt _ (by decide))) ?_ ?_
        · intro hq
          refine nrm_of (Or.inr ?_)
          rw [Nat.add_sub_cancel, pk_uLs]
          have hlt : c < 1000000000 := by
            rcases Nat.lt_or_ge c 1000000000 with z | z
            · exact z
            · have := Nat.div_pos z (show 0 < 1000000000 by decide)
              omega
          rw [Nat.mod_eq_of_lt hlt]
          intro z
          have := (pk_lEQ hc (by decide : 0 < 2 ^ 63)).mp z
          exact hc0 this
        · have e := Nat.div_add_mod c 1000000000
          rw [nv, nv_up (Nat.le_refl _), dg_us (Nat.lt_trans (Nat.mod_lt _ (by decide)) (by decide)), ← hv, Nat.pow_succ]
          generalize c / 1000000000 = qq at e ⊢
          generalize c % 1000000000 = rr at e ⊢
          have e3 : qq * (1000000000 ^ i * 1000000000) = (1000000000 * qq) * 1000000000 ^ i := by rw [Nat.mul_comm (1000000000 ^ i) 1000000000, ← Nat.mul_assoc, Nat.mul_comm qq 1000000000]
          rw [e3, Nat.add_assoc, ← Nat.add_mul]
          congr 2
          omega
  simp only [u_9_0, u_9_1, u_9_2, u_9_2n, u_9_3, u_9_4, u_9_7, u_9_8, pm_O_some, pm_w_nil, pm_w_i, pm_w_l, pm_w_r, pm_w_n, pm_c_n, pm_c_i, pm_c_l, pm_c_r, pm_c_u, Nat.reduceAdd, Nat.reduceLeDiff, true_and, Option.toList_some, Option.toList_none, List.cons_append, List.nil_append, ns_at0 v, ns_s0, pf_5_1]
  exact loop 12 0 V f (by omega) hV (fun i hi => absurd hi (by omega)) (fun _ => rfl) (by simp [nv])
theorem s_ncopy {m : Nat} (v : nok B h a) (h1 : pm_at B h b = some (.inr (5, [.ref (b + 1), .int (nI m)]))) (h2 : pm_at B h (b + 1) = some (.inl (1, 12, .inr (.inl g)))) (hm : m ≤ 12) (d : ¬ b = a ∧ ¬ b = a + 1 ∧ ¬ b + 1 = a)
    (hQ : ∀ f', (∀ i, i < m → f' i = g i) → Q none (nset B h a f' (nI m))) : PW B X 46 0 [some (.ref a), some (.ref b), none] [] (nset B h a f x) Q := by
  have r1 : ∀ {f x}, pm_at B (nset B h a f x) b = some (.inr (5, [.ref (b + 1), .int (nI m)])) := by
    intro f x
    rw [ns_ne v d.1 d.2.1, h1]
  have r2 : ∀ {f x}, pm_at B (nset B h a f x) (b + 1) = some (.inl (1, 12, .inr (.inl g))) := by
    intro f x
    rw [ns_ne v d.2.2 (by omega), h2]
  have loop : ∀ r i fi, i + r = m → (∀ j, j < i → fi j = g j) → PW B X 46 10 [some (.ref a), some (.ref b), some (.int (nI i))] [] (nset B h a fi (nI m)) Q := by
    intro r
    induction r with
    | zero =>
      intro i fi hi hs
      obtain rfl : i = m := by omega
      have e2 : nI i ≤ nI i := nI_le (Nat.le_refl _) (by omega)
      simp only [u_46_10, u_46_11, u_46_11n, u_46_12, u_46_15, u_46_36, pm_O_some, pm_w_nil, pm_w_i, pm_w_l, pm_w_r, pm_w_n, pm_c_n, pm_c_i, pm_c_l, pm_c_r, pm_c_u, Nat.reduceAdd, Nat.reduceLeDiff, true_and, Option.toList_some, Option.toList_none, List.cons_append, List.nil_append, ns_at0 v, gf_5_1, if_pos e2]
      exact hQ fi hs
    | succ r ih =>
      intro i fi hi hs
      have e2 : ¬ nI m ≤ nI i := nI_ge (by omega) (by omega)
      rw [u_46_10]
      simp only [u_46_11, u_46_11n, u_46_12, u_46_15, u_46_18, u_46_18n, u_46_19, u_46_22, u_46_23, u_46_23n, u_46_24, u_46_27, u_46_28, u_46_29, u_46_30, u_46_33, pm_O_some, pm_w_nil, pm_w_i, pm_w_l, pm_w_r, pm_w_n, pm_c_n, pm_c_i, pm_c_l, pm_c_r, pm_c_u, Nat.reduceAdd, Nat.reduceLeDiff, true_and, Option.toList_some, Option.toList_none, List.cons_append, List.nil_append, ns_at0 v, ns_at1 v, ns_s1 v, r1, r2, gf_5_0, gf_5_1, if_neg e2, ld_l (pm_ix_of (show i < 12 by omega) (by decide)), st_l (pm_ix_of (show i < 12 by omega) (by decide)), nI_clamp (show i < 2 ^ 31 by omega), nI_1]
      refine ih (i + 1) _ (by omega) (fun j hj => ?_)
      by_cases hji : j = i
      · subst hji; rw [pk_uLs]
      · rw [pk_uLn hji]; exact hs j (by omega)
  simp only [u_46_0, u_46_0n, u_46_1, u_46_1n, u_46_2, u_46_5, u_46_8, u_46_9, pm_O_some, pm_w_nil, pm_w_i, pm_w_l, pm_w_r, pm_w_n, pm_c_n, pm_c_i, pm_c_l, pm_c_r, pm_c_u, Nat.reduceAdd, Nat.reduceLeDiff, true_and, Option.toList_some, Option.toList_none, List.cons_append, List.nil_append, ns_at0 v, ns_s0, r1, gf_5_1, pf_5_1]
  exact loop m 0 f (by omega) (fun j hj => absurd hj (by omega))
/-- the value of the limbs from k on -/
def hv (f : Nat → Int64) (n k : Nat) : Nat := nv (fun i => f (k + i)) (n - k)
theorem nv_hd {f : Nat → Int64} : ∀ {n : Nat}, nv f (n + 1) = dg f 0 + 1000000000 * nv (fun i => f (1 + i)) n
  | 0 => by simp [nv]
  | n + 1 => by
    rw [nv, nv_hd (n := n), nv, Nat.mul_add, Nat.add_assoc]
    congr 2
    rw [show dg (fun i => f (1 + i)) n = dg f (n + 1) by unfold dg; simp only [Nat.add_comm 1 n], Nat.pow_succ, Nat.mul_comm (1000000000 ^ n) 1000000000, Nat.mul_left_comm]
theorem hv_step {f : Nat → Int64} {n k : Nat} (hk : k < n) : hv f n k = dg f k + 1000000000 * hv f n (k + 1) := by
  unfold hv
  rw [show n - k = (n - (k + 1)) + 1 by omega, nv_hd]
  have e1 : dg (fun i => f (k + i)) 0 = dg f k := rfl
  have e2 : (fun i => (fun i => f (k + i)) (1 + i)) = (fun i => f (k + 1 + i)) := by funext i; simp only; congr 1; omega
  rw [e1, e2]
theorem hv_end {f : Nat → Int64} {n : Nat} : hv f n n = 0 := by
  unfold hv
  rw [Nat.sub_self]; rfl
theorem hv_0 {f : Nat → Int64} {n : Nat} : hv f n 0 = nv f n := by
  unfold hv
  rw [Nat.sub_zero]
  congr 1
  funext i
  rw [Nat.zero_add]
theorem nI_sub1 (m : Nat) : nI m + (-1) = nI m - 1 := by rw [Int32.sub_eq_add_neg]
theorem s_nrem {m : Nat} (h1 : pm_at B h a = some (.inr (5, [.ref (a + 1), .int (nI n)]))) (h2 : pm_at B h (a + 1) = some (.inl (1, 12, .inr (.inl f)))) (hl : lok f n) (hn : n ≤ 12) (hm0 : 0 < m) (hm : m < 1000000000) :
    PW B X 54 0 [some (.ref a), some (.long (lN m)), none, none, none, none] [] h Q ↔ Q (some (.long (lN (nv f n % m)))) h := by
  have hz : ¬ lN m = 0 := fun z => by have := (pk_lEQ (by omega) (by decide : 0 < 2 ^ 63)).mp z; omega
  have hp : (0 : Int64) < lN m := by rw [show (0 : Int64) = lN 0 from rfl, pk_lLT (by decide) (by omega)]; exact hm0
  have loop : ∀ k, k ≤ n → (PW B X 54 18 [some (.ref a), some (.long (lN m)), none, some (.long (lN (hv f n k % m))), none, some (.int (nI k - 1))] [] h Q ↔ Q (some (.long (lN (nv f n % m)))) h) := by
    intro k
    induction k with
    | zero =>
      intro _
      have e1 : nI 0 - 1 < 0 := by decide
      simp only [u_54_0, u_54_1, u_54_2, u_54_3, u_54_6, u_54_7, u_54_8, u_54_9, u_54_10, u_54_10n, u_54_11, u_54_14, u_54_15, u_54_16, u_54_18, u_54_20, u_54_23, u_54_24, u_54_27, u_54_28, u_54_28n, u_54_29, u_54_32, u_54_34, u_54_35, u_54_36, u_54_37, u_54_38, u_54_39, u_54_42, u_54_45, u_54_46, pm_O_some, pm_w_nil, pm_w_i, pm_w_l, pm_w_r, pm_w_n, pm_c_n, pm_c_i, pm_c_l, pm_c_r, pm_c_u, Nat.reduceAdd, Nat.reduceLeDiff, true_and, Option.toList_some, Option.toList_none, List.cons_append, List.nil_append, if_pos e1, hv_0]
    | succ k ih =>
      intro hk
      have e1 : ¬ nI k < 0 := nI_pos (by omega)
      have hd := hl k (by omega)
      have hr : hv f n (k + 1) % m < m := Nat.mod_lt _ hm0
      have hsm : hv f n (k + 1) % m * 1000000000 + dg f k < 2 ^ 63 := by omega
      rw [u_54_18]
      simp only [u_54_20, u_54_23, u_54_24, u_54_27, u_54_28, u_54_28n, u_54_29, u_54_32, u_54_34, u_54_35, u_54_36, u_54_37, u_54_38, u_54_39, u_54_42, pm_O_some, pm_w_nil, pm_w_i, pm_w_l, pm_w_r, pm_w_n, pm_c_n, pm_c_i, pm_c_l, pm_c_r, pm_c_u, Nat.reduceAdd, Nat.reduceLeDiff, true_and, Option.toList_some, Option.toList_none, List.cons_append, List.nil_append, nI_pred, if_neg e1, h1, h2, gf_5_0, gf_5_1, ld_l (pm_ix_of (show k < 12 by omega) (by decide)), nI_clamp (show k < 2 ^ 31 by omega), nI_sub1, hz, not_false_eq_true]
      rw [hd.1, lB, lN_mul, lN_add, pk_lRem hsm hm0 (by omega), ← ih (by omega), hv_step (show k < n by omega)]
      rw [show (hv f n (k + 1) % m * 1000000000 + dg f k) % m = (dg f k + 1000000000 * hv f n (k + 1)) % m by
        rw [Nat.add_comm, Nat.mul_comm, Nat.add_mod, Nat.mul_mod, Nat.mod_mod, ← Nat.mul_mod, ← Nat.add_mod]]
  simp only [u_54_0, u_54_1, u_54_2, u_54_3, u_54_6, u_54_7, u_54_8, u_54_9, u_54_10, u_54_10n, u_54_11, u_54_14, u_54_15, u_54_16, pm_O_some, pm_w_nil, pm_w_i, pm_w_l, pm_w_r, pm_w_n, pm_c_n, pm_c_i, pm_c_l, pm_c_r, pm_c_u, Nat.reduceAdd, Nat.reduceLeDiff, true_and, Option.toList_some, Option.toList_none, List.cons_append, List.nil_append, lg_cmp_gt, if_pos hp, h1, gf_5_1]
  have := loop n (Nat.le_refl _)
  rw [hv_end, Nat.zero_mod] at this
  exact this
theorem s_ndiv {m : Nat} (v : nok B h a) (hl : lok f n) (hn : n ≤ 12) (hm0 : 0 < m) (hm : m < 1000000000) (hQ : ∀ f' n', lok f' n' → n' ≤ 12 → nrm f' n' → nv f' n' = nv f n / m → Q none (nset B h a f' (nI n'))) :
    PW B X 55 0 [some (.ref a), some (.long (lN m)), none, none, none, none, none, none] [] (nset B h a f (nI n)) Q := by
  have hz : ¬ lN m = 0 := fun z => by have := (pk_lEQ (by omega) (by decide : 0 < 2 ^ 63)).mp z; omega
  have hp : (0 : Int64) < lN m := by rw [show (0 : Int64) = lN 0 from rfl, pk_lLT (by decide) (by omega)]; exact hm0
  have loop : ∀ k rr fi w6 w7, k ≤ n → rr < m → lok fi n → (∀ j, j < k → fi j = f j) → hv fi n k * m + rr = hv f n k →
      PW B X 55 17 [some (.ref a), some (.long (lN m)), none, some (.long (lN rr)), none, some (.int (nI k - 1)), w6, w7] [] (nset B h a fi (nI n)) Q := by
    intro k
    induction k with
    | zero =>
      intro rr fi w6 w7 _ hr hfi hs hv0
      have e1 : nI 0 - 1 < 0 := by decide
      simp only [u_55_0, u_55_1, u_55_2, u_55_3, u_55_6, u_55_7, u_55_8, u_55_9, u_55_9n, u_55_10, u_55_13, u_55_14, u_55_15, u_55_17, u_55_19, u_55_22, u_55_23, u_55_26, u_55_27, u_55_27n, u_55_28, u_55_31, u_55_33, u_55_34, u_55_35, u_55_37, u_55_37n, u_55_38, u_55_41, u_55_43, u_55_45, u_55_46, u_55_47, u_55_48, u_55_50, u_55_51, u_55_52, u_55_53, u_55_56, u_55_59, u_55_59n, u_55_60, u_55_63, pm_O_some, pm_w_nil, pm_w_i, pm_w_l, pm_w_r, pm_w_n, pm_c_n, pm_c_i, pm_c_l, pm_c_r, pm_c_u, Nat.reduceAdd, Nat.reduceLeDiff, true_and, Option.toList_some, Option.toList_none, List.cons_append, List.nil_append, if_pos e1, pm_io_of (ns_at0 v), s_trim v hn]
      refine hQ fi _ (lok_mono hfi (tl_le _ _)) (Nat.le_trans (tl_le _ _) hn) (tl_tl _ _) ?_
      rw [nv_tl]
      rw [hv_0, hv_0] at hv0
      rw [← hv0, Nat.add_comm, Nat.add_mul_div_right _ _ hm0, Nat.div_eq_of_lt hr, Nat.zero_add]
    | succ k ih =>
      intro rr fi w6 w7 hk hr hfi hs hv0
      have e1 : ¬ nI k < 0 := nI_pos (by omega)
      have hd := hfi k (by omega)
      have hfd : dg fi k = dg f k := dg_eq (hs k (by omega))
      have hsm : rr * 1000000000 + dg fi k < 2 ^ 63 := by omega
      have hqd : (rr * 1000000000 + dg fi k) / m < 1000000000 := by
        refine Nat.div_lt_of_lt_mul ?_
        have : (rr + 1) * 1000000000 ≤ m * 1000000000 := Nat.mul_le_mul_right _ hr
        omega
      rw [u_55_17]
      simp only [u_55_19, u_55_22, u_55_23, u_55_26, u_55_27, u_55_27n, u_55_28, u_55_31, u_55_33, u_55_34, u_55_35, u_55_37, u_55_37n, u_55_38, u_55_41, u_55_43, u_55_45, u_55_46, u_55_47, u_55_48, u_55_50, u_55_51, u_55_52, u_55_53, u_55_56, pm_O_some, pm_w_nil, pm_w_i, pm_w_l, pm_w_r, pm_w_n, pm_c_n, pm_c_i, pm_c_l, pm_c_r, pm_c_u, Nat.reduceAdd, Nat.reduceLeDiff, true_and, Option.toList_some, Option.toList_none, List.cons_append, List.nil_append, nI_pred, if_neg e1, ns_at0 v, ns_at1 v, ns_s1 v, gf_5_0, gf_5_1, ld_l (pm_ix_of (show k < 12 by omega) (by decide)), st_l (pm_ix_of (show k < 12 by omega) (by decide)), nI_clamp (show k < 2 ^ 31 by omega), nI_sub1, hz, not_false_eq_true]
      rw [hd.1, lB, lN_mul, lN_add, pk_lRem hsm hm0 (by omega), pk_lDiv hsm hm0 (by omega)]
      refine ih _ _ _ _ (by omega) (Nat.mod_lt _ hm0) (lok_up hfi hqd) (fun j hj => by rw [pk_uLn (by omega)]; exact hs j (by omega)) ?_
      rw [hv_step (show k < n by omega), hv_step (show k < n by omega), dg_us (by omega)]
      have hh : hv (vp_updL fi k (lN ((rr * 1000000000 + dg fi k) / m))) n (k + 1) = hv fi n (k + 1) := by
        unfold hv
        refine nv_congr (fun i hi => ?_)
        show dg (vp_updL fi k _) (k + 1 + i) = dg fi (k + 1 + i)
        exact dg_un (by omega)
      rw [hh, ← hv0, ← hfd]
      have e := Nat.div_add_mod (rr * 1000000000 + dg fi k) m
      generalize (rr * 1000000000 + dg fi k) / m = qq at e ⊢
      generalize (rr * 1000000000 + dg fi k) % m = r2 at e ⊢
      generalize hv fi n (k + 1) = HV
      rw [Nat.add_mul, Nat.mul_add, Nat.mul_comm qq m]
      have e5 : 1000000000 * HV * m = 1000000000 * (HV * m) := Nat.mul_assoc _ _ _
      rw [e5]
      omega
  simp only [u_55_0, u_55_1, u_55_2, u_55_3, u_55_6, u_55_7, u_55_8, u_55_9, u_55_9n, u_55_10, u_55_13, u_55_14, u_55_15, pm_O_some, pm_w_nil, pm_w_i, pm_w_l, pm_w_r, pm_w_n, pm_c_n, pm_c_i, pm_c_l, pm_c_r, pm_c_u, Nat.reduceAdd, Nat.reduceLeDiff, true_and, Option.toList_some, Option.toList_none, List.cons_append, List.nil_append, lg_cmp_gt, if_pos hp, ns_at0 v, gf_5_1]
  exact loop n 0 f none none (Nat.le_refl _) hm0 hl (fun _ _ => rfl) (by rw [hv_end]; simp)
end NT

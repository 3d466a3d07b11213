/-! NATURALS, e: add, subtract, putProduct. -/
/-- limbs, 0 from n on -/
def lz (f : Nat → Int64) (n : Nat) : Nat → Int64 := fun i => if i < n then f i else 0
theorem lz_in {f : Nat → Int64} {n i : Nat} (h : i < n) : lz f n i = f i := if_pos h
theorem lz_out {f : Nat → Int64} {n i : Nat} (h : n ≤ i) : lz f n i = 0 := if_neg (by omega)
theorem dg_0 {f : Nat → Int64} {i : Nat} (h : f i = 0) : dg f i = 0 := by unfold dg; rw [h]; rfl
theorem lz_ok {f : Nat → Int64} {n m : Nat} (h : lok f n) : lok (lz f n) m := by
  intro i _
  by_cases hi : i < n
  · rw [dg_eq (lz_in hi), lz_in hi]; exact h i hi
  · rw [dg_0 (lz_out (by omega)), lz_out (by omega)]; exact ⟨rfl, by decide⟩
theorem lz_nv {f : Nat → Int64} {n : Nat} : ∀ {r : Nat}, nv (lz f n) (n + r) = nv f n
  | 0 => nv_congr (fun i hi => dg_eq (lz_in hi))
  | r + 1 => by rw [← Nat.add_assoc, nv, lz_nv (r := r), dg_0 (lz_out (by omega))]; simp
theorem lz_nv' {f : Nat → Int64} {n m : Nat} (h : n ≤ m) : nv (lz f n) m = nv f n := by
  obtain ⟨r, rfl⟩ : ∃ r, m = n + r := ⟨m - n, by omega⟩
  exact lz_nv
theorem nrm_val {f : Nat → Int64} {n : Nat} (hl : lok f n) (h : n = 0 ∨ 1000000000 ^ (n - 1) ≤ nv f n) : nrm f n := by
  refine nrm_of ?_
  rcases h with h | h
  · exact Or.inl h
  · cases n with
    | zero => exact Or.inl rfl
    | succ n =>
      refine Or.inr (fun z => ?_)
      have z : f n = 0 := z
      rw [nv, dg_0 z] at h
      have := nv_lt (f := f) (n := n) (fun i hi => (hl i (by omega)).2)
      simp at h
      omega
theorem val_nrm {f : Nat → Int64} {n : Nat} (hl : lok f n) (h : nrm f n) : n = 0 ∨ 1000000000 ^ (n - 1) ≤ nv f n := by
  cases n with
  | zero => exact Or.inl rfl
  | succ n => exact Or.inr (nv_ge hl h)
theorem nv_upd {f : Nat → Int64} {p d : Nat} (hd : d < 2 ^ 63) : ∀ {s : Nat}, p < s → nv (vp_updL f p (lN d)) s + dg f p * 1000000000 ^ p = nv f s + d * 1000000000 ^ p
  | 0, h => absurd h (by omega)
  | s + 1, h => by
    rw [nv, nv]
    by_cases hp : p = s
    · subst hp
      rw [nv_up (Nat.le_refl _), dg_us hd]
      omega
    · have := nv_upd (f := f) (p := p) hd (s := s) (by omega)
      rw [dg_un (fun z => hp z.symm)]
      omega
theorem l_add {a b c d : Nat} (h : d + b = a + c) : lN a - lN b + lN c = lN d := by
  have e : lN d + lN b = lN a + lN c := by rw [lN_add, lN_add, h]
  rw [Int64.sub_eq_add_neg, Int64.add_assoc, Int64.add_comm (-lN b), ← Int64.add_assoc, ← e, Int64.add_assoc, Int64.add_right_neg, Int64.add_zero]
theorem l_subT {a b : Nat} (ha : a < 2 ^ 62) (hb : b < 2 ^ 62) : (lN a - lN b).toInt = (a : Int) - b := by
  rw [Int64.toInt_sub, pk_lT (by omega), pk_lT (by omega)]
  exact Int.bmod_eq_of_le (by omega) (by omega)
theorem l_ss (x y z : Int64) : x - y - z = x - (y + z) := by grind
theorem l_neg {a b : Nat} (ha : a < 2 ^ 62) (hb : b < 2 ^ 62) (h : a < b) : ¬ (0 : Int64) ≤ lN a - lN b := by
  rw [Int64.le_iff_toInt_le, l_subT ha hb]
  simp
  omega
theorem l_pos {c : Nat} (hc : c < 2 ^ 63) : (0 : Int64) ≤ lN c := by
  rw [show (0 : Int64) = lN 0 from rfl, pk_lLE (by decide) hc]
  omega
section NT
variable {B : Nat} {X : pm_X} {h : pm_H} {Q : Option Value → pm_H → Prop} {a b n k q : Nat} {f g : Nat → Int64} {x y : Int32} {z w : Int64}
theorem s_nadd {m : Nat} (v : nok B h a) (h1 : pm_at B h b = some (.inr (5, [.ref (b + 1), .int (nI m)]))) (h2 : pm_at B h (b + 1) = some (.inl (1, 12, .inr (.inl g)))) (d : ¬ b = a ∧ ¬ b = a + 1 ∧ ¬ b + 1 = a)
    (hl : lok f n) (hn : n ≤ 12) (hr : nrm f n) (hl2 : lok g m) (hm : m ≤ 12) (hr2 : nrm g m) (hb : nv f n + nv g m < 1000000000 ^ 12) (hQ : ∀ f' n', lok f' n' → n' ≤ 12 → nrm f' n' → nv f' n' = nv f n + nv g m → Q none (nset B h a f' (nI n'))) :
    PW B X 47 0 [some (.ref a), some (.ref b), none, none, none, none, none, none] [] (nset B h a f (nI n)) Q := by
  have r1 : ∀ {f x}, pm_at B (nset B h a f x) b = some (.inr (5, [.ref (b + 1), .int (nI m)])) := by
    intro f x
    rw [ns_ne v d.1 d.2.1, h1]
  have r2 : ∀ {f x}, pm_at B (nset B h a f x) (b + 1) = some (.inl (1, 12, .inr (.inl g))) := by
    intro f x
    rw [ns_ne v d.2.2 (by omega), h2]
  obtain ⟨L, hL⟩ : ∃ L, L = max n m := ⟨_, rfl⟩
  have hmax : (if nI n < nI m then nI m else nI n) = nI L := by
    rw [hL]
    by_cases z : n < m
    · rw [if_pos (nI_lt z (by omega)), Nat.max_eq_right (by omega)]
    · rw [if_neg (nI_nlt (by omega) (by omega)), Nat.max_eq_left (by omega)]
  have hnv1 : nv (lz f n) L = nv f n := lz_nv' (by omega)
  have hnv2 : nv (lz g m) L = nv g m := lz_nv' (by omega)
  have fin : ∀ f' n', lok f' n' → n' ≤ 12 → nv f' n' = nv f n + nv g m → (n' = 0 ∨ 1000000000 ^ (n' - 1) ≤ nv f' n') → Q none (nset B h a f' (nI n')) := fun f' n' q1 q2 q3 q4 => hQ f' n' q1 q2 (nrm_val q1 q4) q3
  have loop : ∀ r i c fi w6 w7, i + r = L → c < 2 → lok fi i → (∀ j, i ≤ j → fi j = f j) → nv fi i + c * 1000000000 ^ i = nv (lz f n) i + nv (lz g m) i →
      PW B X 47 17 [some (.ref a), some (.ref b), some (.int (nI L)), some (.long (lN c)), none, some (.int (nI i)), w6, w7] [] (nset B h a fi (nI n)) Q := by
    intro r
    induction r with
    | zero =>
      intro i c fi w6 w7 hi hc hfi hs hv
      obtain rfl : i = L := by omega
      have e2 : nI i ≤ nI i := nI_le (Nat.le_refl _) (by omega)
      rw [hnv1, hnv2] at hv
      simp only [u_47_17, u_47_19, u_47_20, u_47_66, u_47_66n, u_47_67, u_47_68, u_47_71, u_47_72, u_47_73, u_47_74, u_47_77, u_47_77n, u_47_78, u_47_79, u_47_82, pm_O_some, pm_w_nil, pm_w_i, pm_w_l, pm_w_r, pm_w_n, pm_c_n, pm_c_i, pm_c_l, pm_c_r, pm_c_u, Nat.reduceAdd, Nat.reduceLeDiff, true_and, Option.toList_some, Option.toList_none, List.cons_append, List.nil_append, ns_at0 v, ns_s0, pf_5_1, if_pos e2, lg_cmp_le, l_le0 (show c < 2 ^ 63 by omega)]
      by_cases hc0 : c = 0
      · rw [if_pos hc0]
        have hv' : nv fi i = nv f n + nv g m := by rw [← hv, hc0]; simp
        refine fin fi i hfi (by omega) hv' ?_
        have t1 := val_nrm hl hr
        have t2 := val_nrm hl2 hr2
        rcases Nat.le_total n m with z | z
        · have : i = m := by omega
          subst this
          rcases t2 with t | t
          · exact Or.inl t
          · exact Or.inr (by omega)
        · have : i = n := by omega
          subst this
          rcases t1 with t | t
          · exact Or.inl t
          · exact Or.inr (by omega)
      · rw [if_neg hc0]
        have hlt : i < 12 := by
          rcases Nat.lt_or_ge i 12 with z | z
          · exact z
          · exfalso
            have h9 : 1 * 1000000000 ^ 12 ≤ c * 1000000000 ^ i := Nat.mul_le_mul (by omega) (Nat.pow_le_pow_right (by decide) z)
            omega
        simp only [pm_io_of (ns_at0 v), s_append v hlt, u_47_82, pm_O_some, pm_w_nil, pm_w_i, pm_w_l, pm_w_r, pm_w_n, pm_c_n, pm_c_i, pm_c_l, pm_c_r, pm_c_u, Nat.reduceAdd, Nat.reduceLeDiff, true_and, Option.toList_some, Option.toList_none, List.cons_append, List.nil_append]
        have hv' : nv (vp_updL fi i (lN c)) (i + 1) = nv f n + nv g m := by rw [nv, nv_up (Nat.le_refl _), dg_us (by omega), hv]
        refine fin _ (i + 1) (lok_push hfi (by omega)) hlt hv' (Or.inr ?_)
        rw [Nat.add_sub_cancel, nv, dg_us (by omega)]
        have := Nat.le_mul_of_pos_left (1000000000 ^ i) (show 0 < c by omega)
        omega
    | succ r ih =>
      intro i c fi w6 w7 hi hc hfi hs hv
      have hin : i < L := by omega
      have e2 : ¬ nI L ≤ nI i := nI_ge hin (by omega)
      have t1 : (if i < n then fi i else 0) = lN (dg (lz f n) i) := by
        rw [hs i (Nat.le_refl _)]
        exact (lz_ok (m := i + 1) hl i (by omega)).1
      have t2 : (if i < m then g i else 0) = lN (dg (lz g m) i) := (lz_ok (m := i + 1) hl2 i (by omega)).1
      have b1 := (lz_ok (m := i + 1) hl i (by omega)).2
      have b2 := (lz_ok (m := i + 1) hl2 i (by omega)).2
      have hsm : dg (lz f n) i + dg (lz g m) i + c < 2 ^ 63 := by omega
      rw [u_47_17]
      simp only [u_47_19, u_47_20, u_47_23, u_47_23n, u_47_24, u_47_26, u_47_29, u_47_29n, u_47_30, u_47_32, u_47_35, u_47_36, u_47_37, u_47_38, u_47_40, u_47_40n, u_47_41, u_47_44, u_47_46, u_47_48, u_47_51, u_47_52, u_47_53, u_47_55, u_47_58, u_47_59, u_47_60, u_47_63, pm_O_some, pm_w_nil, pm_w_i, pm_w_l, pm_w_r, pm_w_n, pm_c_n, pm_c_i, pm_c_l, pm_c_r, pm_c_u, Nat.reduceAdd, Nat.reduceLeDiff, true_and, Option.toList_some, Option.toList_none, List.cons_append, List.nil_append, ns_at0 v, ns_at1 v, ns_s1 v, gf_5_0, gf_5_1, if_neg e2, pm_io_of (ns_at0 v), pm_io_of r1, s_limbAt (ns_at0 v) (ns_at1 v) hn (show i < 2 ^ 31 by omega), s_limbAt r1 r2 hm (show i < 2 ^ 31 by omega), st_l (pm_ix_of (show i < 12 by omega) (by decide)), nI_clamp (show i < 2 ^ 31 by omega), lB0, not_false_eq_true]
      rw [t1, t2, lN_add, lN_add, lB, pk_lRem hsm (by decide) (by decide), pk_lDiv hsm (by decide) (by decide), nI_1]
      refine ih (i + 1) _ _ _ _ (by omega) ?_ (lok_push hfi (Nat.mod_lt _ (by decide))) (fun j h1 => by rw [pk_uLn (by omega)]; exact hs j (by omega)) ?_
      · exact Nat.div_lt_of_lt_mul (by omega)
      · have e := Nat.div_add_mod (dg (lz f n) i + dg (lz g m) i + c) 1000000000
        rw [nv, nv_up (Nat.le_refl _), dg_us (Nat.lt_trans (Nat.mod_lt _ (by decide)) (by decide)), nv, nv, Nat.pow_succ]
        generalize (dg (lz f n) i + dg (lz g m) i + c) / 1000000000 = qq at e ⊢
        generalize (dg (lz f n) i + dg (lz g m) i + c) % 1000000000 = rr at e ⊢
        generalize dg (lz f n) i = d1 at e ⊢
        generalize dg (lz g m) i = d2 at e ⊢
        have e3 : qq * (1000000000 ^ i * 1000000000) = (1000000000 * qq) * 1000000000 ^ i := by rw [Nat.mul_comm (1000000000 ^ i) 1000000000, ← Nat.mul_assoc, Nat.mul_comm qq 1000000000]
        have e4 : (1000000000 * qq + rr) * 1000000000 ^ i = (d1 + d2 + c) * 1000000000 ^ i := by rw [e]
        rw [Nat.add_mul, Nat.add_mul, Nat.add_mul] at e4
        rw [e3]
        omega
  simp only [u_47_0, u_47_0n, u_47_1, u_47_4, u_47_4n, u_47_5, u_47_8, u_47_11, u_47_12, u_47_13, u_47_14, u_47_15, pm_O_some, pm_w_nil, pm_w_i, pm_w_l, pm_w_r, pm_w_n, pm_c_n, pm_c_i, pm_c_l, pm_c_r, pm_c_u, Nat.reduceAdd, Nat.reduceLeDiff, true_and, Option.toList_some, Option.toList_none, List.cons_append, List.nil_append, ns_at0 v, r1, gf_5_1, hmax]
  exact loop L 0 0 f none none (by omega) (by decide) (fun i hi => absurd hi (by omega)) (fun _ _ => rfl) (by simp [nv])
theorem s_nsub {m : Nat} (v : nok B h a) (h1 : pm_at B h b = some (.inr (5, [.ref (b + 1), .int (nI m)]))) (h2 : pm_at B h (b + 1) = some (.inl (1, 12, .inr (.inl g)))) (d : ¬ b = a ∧ ¬ b = a + 1 ∧ ¬ b + 1 = a)
    (hl : lok f n) (hn : n ≤ 12) (hl2 : lok g m) (hm : m ≤ 12) (hmn : m ≤ n) (hle : nv g m ≤ nv f n) (hQ : ∀ f' n', lok f' n' → n' ≤ 12 → nrm f' n' → nv f' n' = nv f n - nv g m → Q none (nset B h a f' (nI n'))) :
    PW B X 53 0 [some (.ref a), some (.ref b), none, none, none, none, none] [] (nset B h a f (nI n)) Q := by
  have r1 : ∀ {f x}, pm_at B (nset B h a f x) b = some (.inr (5, [.ref (b + 1), .int (nI m)])) := by
    intro f x
    rw [ns_ne v d.1 d.2.1, h1]
  have r2 : ∀ {f x}, pm_at B (nset B h a f x) (b + 1) = some (.inl (1, 12, .inr (.inl g))) := by
    intro f x
    rw [ns_ne v d.2.2 (by omega), h2]
  have hnv2 : nv (lz g m) n = nv g m := lz_nv' hmn
  have loop : ∀ r i c fi w5 w6, i + r = n → c < 2 → lok fi n → (∀ j, i ≤ j → fi j = f j) → nv fi i + nv (lz g m) i = nv f i + c * 1000000000 ^ i →
      PW B X 53 5 [some (.ref a), some (.ref b), some (.long (lN c)), none, some (.int (nI i)), w5, w6] [] (nset B h a fi (nI n)) Q := by
    intro r
    induction r with
    | zero =>
      intro i c fi w5 w6 hi hc hfi hs hv
      obtain rfl : i = n := by omega
      have e2 : nI i ≤ nI i := nI_le (Nat.le_refl _) (by omega)
      rw [hnv2] at hv
      have hlt := nv_lt (f := fi) (n := i) (fun j hj => (hfi j hj).2)
      have hc0 : c = 0 := by
        rcases Nat.eq_zero_or_pos c with z | z
        · exact z
        · exfalso
          have := Nat.le_mul_of_pos_left (1000000000 ^ i) z
          omega
      simp only [u_53_5, u_53_7, u_53_7n, u_53_8, u_53_11, u_53_66, u_53_66n, u_53_67, u_53_70, pm_O_some, pm_w_nil, pm_w_i, pm_w_l, pm_w_r, pm_w_n, pm_c_n, pm_c_i, pm_c_l, pm_c_r, pm_c_u, Nat.reduceAdd, Nat.reduceLeDiff, true_and, Option.toList_some, Option.toList_none, List.cons_append, List.nil_append, ns_at0 v, gf_5_1, if_pos e2, pm_io_of (ns_at0 v), s_trim v hn]
      refine hQ fi _ (lok_mono hfi (tl_le _ _)) (Nat.le_trans (tl_le _ _) hn) (tl_tl _ _) ?_
      rw [nv_tl]
      rw [hc0] at hv
      omega
    | succ r ih =>
      intro i c fi w5 w6 hi hc hfi hs hv
      have hin : i < n := by omega
      have e2 : ¬ nI n ≤ nI i := nI_ge hin (by omega)
      have t1 : fi i = lN (dg f i) := by rw [hs i (Nat.le_refl _)]; exact (hl i hin).1
      have t2 : (if i < m then g i else 0) = lN (dg (lz g m) i) := (lz_ok (m := i + 1) hl2 i (by omega)).1
      have b1 := (hl i hin).2
      have b2 := (lz_ok (m := i + 1) hl2 i (by omega)).2
      rw [u_53_5]
      simp only [u_53_7, u_53_7n, u_53_8, u_53_11, u_53_14, u_53_14n, u_53_15, u_53_18, u_53_20, u_53_21, u_53_21n, u_53_22, u_53_24, u_53_27, u_53_28, u_53_29, u_53_30, u_53_32, u_53_34, u_53_35, u_53_36, pm_O_some, pm_w_nil, pm_w_i, pm_w_l, pm_w_r, pm_w_n, pm_c_n, pm_c_i, pm_c_l, pm_c_r, pm_c_u, Nat.reduceAdd, Nat.reduceLeDiff, true_and, Option.toList_some, Option.toList_none, List.cons_append, List.nil_append, ns_at0 v, ns_at1 v, gf_5_0, gf_5_1, if_neg e2, pm_io_of r1, s_limbAt r1 r2 hm (show i < 2 ^ 31 by omega), ld_l (pm_ix_of (show i < 12 by omega) (by decide)), nI_clamp (show i < 2 ^ 31 by omega), lg_cmp_ge]
      rw [t1, t2, l_ss, lN_add]
      by_cases hD : dg (lz g m) i + c ≤ dg f i
      · rw [lN_sub hD, if_pos (l_pos (by omega))]
        simp only [u_53_43, u_53_44, u_53_45, u_53_45n, u_53_46, u_53_49, u_53_51, u_53_53, u_53_54, u_53_57, u_53_58, u_53_59, u_53_60, u_53_63, pm_O_some, pm_w_nil, pm_w_i, pm_w_l, pm_w_r, pm_w_n, pm_c_n, pm_c_i, pm_c_l, pm_c_r, pm_c_u, Nat.reduceAdd, Nat.reduceLeDiff, true_and, Option.toList_some, Option.toList_none, List.cons_append, List.nil_append, ns_at0 v, ns_at1 v, ns_s1 v, gf_5_0, gf_5_1, st_l (pm_ix_of (show i < 12 by omega) (by decide)), nI_clamp (show i < 2 ^ 31 by omega)]
        rw [show (0 : Int64) = lN 0 from rfl, lB, lN_mul, lN_add, nI_1, Nat.zero_mul, Nat.add_zero]
        refine ih (i + 1) 0 _ _ _ (by omega) (by decide) (lok_up hfi (by omega)) (fun j h1 => by rw [pk_uLn (by omega)]; exact hs j (by omega)) ?_
        rw [nv, nv_up (Nat.le_refl _), dg_us (by omega), nv, nv, Nat.zero_mul, Nat.add_zero]
        generalize dg f i = d1 at *
        generalize dg (lz g m) i = d2 at *
        obtain ⟨e, rfl⟩ : ∃ e, d1 = d2 + c + e := ⟨d1 - (d2 + c), by omega⟩
        rw [Nat.add_sub_cancel_left, Nat.add_mul, Nat.add_mul]
        omega
      · rw [if_neg (l_neg (by omega) (by omega) (by omega))]
        simp only [u_53_39, u_53_40, u_53_43, u_53_44, u_53_45, u_53_45n, u_53_46, u_53_49, u_53_51, u_53_53, u_53_54, u_53_57, u_53_58, u_53_59, u_53_60, u_53_63, pm_O_some, pm_w_nil, pm_w_i, pm_w_l, pm_w_r, pm_w_n, pm_c_n, pm_c_i, pm_c_l, pm_c_r, pm_c_u, Nat.reduceAdd, Nat.reduceLeDiff, true_and, Option.toList_some, Option.toList_none, List.cons_append, List.nil_append, ns_at0 v, ns_at1 v, ns_s1 v, gf_5_0, gf_5_1, st_l (pm_ix_of (show i < 12 by omega) (by decide)), nI_clamp (show i < 2 ^ 31 by omega)]
        rw [show (1 : Int64) = lN 1 from rfl, lB, lN_mul, l_add (d := dg f i + 1 * 1000000000 - (dg (lz g m) i + c)) (by omega), nI_1]
        refine ih (i + 1) 1 _ _ _ (by omega) (by decide) (lok_up hfi (by omega)) (fun j h1 => by rw [pk_uLn (by omega)]; exact hs j (by omega)) ?_
        rw [nv, nv_up (Nat.le_refl _), dg_us (by omega), nv, nv, Nat.pow_succ]
        generalize dg f i = d1 at *
        generalize dg (lz g m) i = d2 at *
        obtain ⟨e, he⟩ : ∃ e, d1 + 1 * 1000000000 = d2 + c + e := ⟨d1 + 1 * 1000000000 - (d2 + c), by omega⟩
        rw [he, Nat.add_sub_cancel_left]
        have e4 : (d1 + 1 * 1000000000) * 1000000000 ^ i = (d2 + c + e) * 1000000000 ^ i := by rw [he]
        rw [Nat.add_mul, Nat.add_mul, Nat.add_mul, Nat.one_mul] at e4
        have e5 : 1 * (1000000000 ^ i * 1000000000) = 1000000000 * 1000000000 ^ i := by rw [Nat.one_mul, Nat.mul_comm]
        rw [e5]
        omega
  simp only [u_53_0, u_53_1, u_53_2, u_53_3, pm_O_some, pm_w_nil, pm_w_i, pm_w_l, pm_w_r, pm_w_n, pm_c_n, pm_c_i, pm_c_l, pm_c_r, pm_c_u, Nat.reduceAdd, Nat.reduceLeDiff, true_and, Option.toList_some, Option.toList_none, List.cons_append, List.nil_append]
  exact loop n 0 0 f none none (by omega) (by decide) hl (fun _ _ => rfl) (by simp [nv])
end NT

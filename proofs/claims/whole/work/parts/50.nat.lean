/-! NATURALS OF THE PROGRAM: limbs of nine digits, the lowest first. The heap with one natural set: nset. -/
theorem lc_eq {x y : Int64} : lg_cmp x y = 0 ↔ x = y := lg_cmp_eq x y
def nset (B : Nat) (h : pm_H) (a : Nat) (f : Nat → Int64) (x : Int32) : pm_H := pm_set B (pm_set B h (a + 1) (.inl (1, 12, .inr (.inl f)))) a (.inr (5, [.ref (a + 1), .int x]))
/-- the two cells of a natural are there -/
def nok (B : Nat) (h : pm_H) (a : Nat) : Prop := pm_v B h a ∧ pm_v B h (a + 1)
section NT
variable {B : Nat} {X : pm_X} {h : pm_H} {Q : Option Value → pm_H → Prop} {a n k q : Nat} {f g : Nat → Int64} {x y : Int32}
theorem pm_set_set {e e' : pm_E} : pm_set B (pm_set B h a e) a e' = pm_set B h a e' := by
  unfold pm_set
  rw [List.set_set]
theorem pm_set_comm {b : Nat} {e e' : pm_E} (ha : B ≤ a) (hb : B ≤ b) (hn : ¬ a = b) : pm_set B (pm_set B h a e) b e' = pm_set B (pm_set B h b e') a e := by
  unfold pm_set
  rw [List.set_comm _ _ (by omega)]
theorem pm_set_id {e : pm_E} (k : pm_at B h a = some e) : pm_set B h a e = h := by
  obtain ⟨k1, k2⟩ := pm_at_some k
  unfold pm_set
  obtain ⟨k3, k4⟩ := List.getElem?_eq_some_iff.mp k2
  rw [← k4]
  exact List.set_getElem_self k3
theorem ns_at0 (v : nok B h a) : pm_at B (nset B h a f x) a = some (.inr (5, [.ref (a + 1), .int x])) := pm_at_self (pm_v_set.mpr v.1)
theorem ns_at1 (v : nok B h a) : pm_at B (nset B h a f x) (a + 1) = some (.inl (1, 12, .inr (.inl f))) := by
  unfold nset
  rw [pm_at_ne (pm_v_set.mpr v.1) (by omega), pm_at_self v.2]
theorem ns_ne (v : nok B h a) (h1 : ¬ q = a) (h2 : ¬ q = a + 1) : pm_at B (nset B h a f x) q = pm_at B h q := by
  unfold nset
  rw [pm_at_ne (pm_v_set.mpr v.1) h1, pm_at_ne v.2 h2]
theorem ns_s0 : pm_set B (nset B h a f x) a (.inr (5, [.ref (a + 1), .int y])) = nset B h a f y := pm_set_set
theorem ns_s1 (v : nok B h a) : pm_set B (nset B h a f x) (a + 1) (.inl (1, 12, .inr (.inl g))) = nset B h a g x := by
  unfold nset
  rw [pm_set_comm v.1.1 v.2.1 (by omega), pm_set_set]
theorem ns_self (h1 : pm_at B h a = some (.inr (5, [.ref (a + 1), .int x]))) (h2 : pm_at B h (a + 1) = some (.inl (1, 12, .inr (.inl f)))) : nset B h a f x = h := by
  unfold nset
  rw [pm_set_id h2, pm_set_id h1]
theorem ns_ns (v : nok B h a) : nset B (nset B h a f x) a g y = nset B h a g y := by
  show pm_set B (pm_set B (nset B h a f x) (a + 1) (.inl (1, 12, .inr (.inl g)))) a (.inr (5, [.ref (a + 1), .int y])) = _
  rw [ns_s1 v, ns_s0]
theorem ns_ok : nok B (nset B h a f x) q ↔ nok B h q := by
  unfold nok nset
  rw [pm_v_set, pm_v_set, pm_v_set, pm_v_set]
theorem s_limbAt (h1 : pm_at B h a = some (.inr (5, [.ref (a + 1), .int (nI n)]))) (h2 : pm_at B h (a + 1) = some (.inl (1, 12, .inr (.inl f)))) (hn : n ≤ 12) (hk : k < 2 ^ 31) :
    PW B X 48 0 [some (.ref a), some (.int (nI k))] [] h Q ↔ Q (some (.long (if k < n then f k else 0))) h := by
  have e1 : ¬ nI k < 0 := nI_pos hk
  by_cases hkn : k < n
  · have e2 : ¬ nI n ≤ nI k := nI_ge hkn (by omega)
    simp only [u_48_0, u_48_1, u_48_4, u_48_5, u_48_5n, u_48_6, u_48_9, u_48_12, u_48_12n, u_48_13, u_48_16, u_48_17, u_48_18, u_48_21, u_48_22, pm_O_some, pm_w_nil, pm_w_i, pm_w_l, pm_w_r, pm_w_n, pm_c_n, pm_c_i, pm_c_l, pm_c_r, pm_c_u, Nat.reduceAdd, Nat.reduceLeDiff, true_and, Option.toList_some, Option.toList_none, List.cons_append, List.nil_append, h1, h2, gf_5_0, gf_5_1, if_neg e1, if_neg e2, ld_l (pm_ix_of (show k < 12 by omega) (by decide)), nI_clamp hk, if_pos hkn]
  · have e2 : nI n ≤ nI k := nI_le (by omega) hk
    simp only [u_48_0, u_48_1, u_48_4, u_48_5, u_48_5n, u_48_6, u_48_9, u_48_12, u_48_12n, u_48_13, u_48_16, u_48_17, u_48_18, u_48_21, u_48_22, pm_O_some, pm_w_nil, pm_w_i, pm_w_l, pm_w_r, pm_w_n, pm_c_n, pm_c_i, pm_c_l, pm_c_r, pm_c_u, Nat.reduceAdd, Nat.reduceLeDiff, true_and, Option.toList_some, Option.toList_none, List.cons_append, List.nil_append, h1, h2, gf_5_0, gf_5_1, if_neg e1, if_pos e2, if_neg hkn]
theorem s_append {z : Int64} (v : nok B h a) (hn : n < 12) : PW B X 10 0 [some (.ref a), some (.long z), none] [] (nset B h a f (nI n)) Q ↔ Q none (nset B h a (vp_updL f n z) (nI (n + 1))) := by
  have e2 : ¬ 12 ≤ nI n := nI_ge (b := 12) hn (by decide)
  simp only [u_10_0, u_10_0n, u_10_1, u_10_4, u_10_6, u_10_9, u_10_9n, u_10_10, u_10_13, u_10_13n, u_10_14, u_10_17, u_10_18, u_10_19, u_10_19n, u_10_20, u_10_20i, u_10_21, u_10_24, u_10_25, u_10_26, u_10_29, pm_O_some, pm_w_nil, pm_w_i, pm_w_l, pm_w_r, pm_w_n, pm_c_n, pm_c_i, pm_c_l, pm_c_r, pm_c_u, Nat.reduceAdd, Nat.reduceLeDiff, true_and, Option.toList_some, Option.toList_none, List.cons_append, List.nil_append, ns_at0 v, ns_at1 v, ns_s0, ns_s1 v, gf_5_0, gf_5_1, pf_5_1, if_neg e2, st_l (pm_ix_of hn (by decide)), nI_clamp (show n < 2 ^ 31 by omega), nI_1]
/-- the places up to the highest that isn't 0 -/
def tl (f : Nat → Int64) : Nat → Nat
  | 0 => 0
  | n + 1 => if f n = 0 then tl f n else n + 1
theorem s_trim (v : nok B h a) (hn : n ≤ 12) : PW B X 45 0 [some (.ref a), none] [] (nset B h a f (nI n)) Q ↔ Q none (nset B h a f (nI (tl f n))) := by
  have loop : ∀ m, m ≤ 12 → (PW B X 45 7 [some (.ref a), some (.int (nI m - 1))] [] (nset B h a f (nI m)) Q ↔ Q none (nset B h a f (nI (tl f m)))) := by
    intro m
    induction m with
    | zero =>
      intro _
      have e1 : nI 0 - 1 < 0 := by decide
      simp only [u_45_0, u_45_0n, u_45_1, u_45_4, u_45_5, u_45_6, u_45_7, u_45_8, u_45_11, u_45_11n, u_45_12, u_45_15, u_45_16, u_45_17, u_45_18, u_45_19, u_45_22, u_45_22n, u_45_23, u_45_24, u_45_27, u_45_30, u_45_33, pm_O_some, pm_w_nil, pm_w_i, pm_w_l, pm_w_r, pm_w_n, pm_c_n, pm_c_i, pm_c_l, pm_c_r, pm_c_u, Nat.reduceAdd, Nat.reduceLeDiff, true_and, Option.toList_some, Option.toList_none, List.cons_append, List.nil_append, if_pos e1, tl]
    | succ m ih =>
      intro hm
      have e1 : ¬ nI m < 0 := nI_pos (by omega)
      have e3 : nI m + (-1) = nI m - 1 := by rw [Int32.sub_eq_add_neg]
      by_cases hz : f m = 0
      · rw [u_45_7, u_45_8]
        simp only [u_45_11, u_45_11n, u_45_12, u_45_15, u_45_16, u_45_17, u_45_18, u_45_19, u_45_22, u_45_22n, u_45_23, u_45_24, u_45_27, u_45_30, pm_O_some, pm_w_nil, pm_w_i, pm_w_l, pm_w_r, pm_w_n, pm_c_n, pm_c_i, pm_c_l, pm_c_r, pm_c_u, Nat.reduceAdd, Nat.reduceLeDiff, true_and, Option.toList_some, Option.toList_none, List.cons_append, List.nil_append, nI_pred, if_neg e1, ns_at0 v, ns_at1 v, ns_s0, gf_5_0, gf_5_1, pf_5_1, ld_l (pm_ix_of (show m < 12 by omega) (by decide)), nI_clamp (show m < 2 ^ 31 by omega), lc_eq, hz, not_true, if_false, tl, if_true, e3]
        exact ih (by omega)
      · simp only [u_45_0, u_45_0n, u_45_1, u_45_4, u_45_5, u_45_6, u_45_7, u_45_8, u_45_11, u_45_11n, u_45_12, u_45_15, u_45_16, u_45_17, u_45_18, u_45_19, u_45_22, u_45_22n, u_45_23, u_45_24, u_45_27, u_45_30, u_45_33, pm_O_some, pm_w_nil, pm_w_i, pm_w_l, pm_w_r, pm_w_n, pm_c_n, pm_c_i, pm_c_l, pm_c_r, pm_c_u, Nat.reduceAdd, Nat.reduceLeDiff, true_and, Option.toList_some, Option.toList_none, List.cons_append, List.nil_append, nI_pred, if_neg e1, ns_at0 v, ns_at1 v, ns_s0, gf_5_0, gf_5_1, pf_5_1, ld_l (pm_ix_of (show m < 12 by omega) (by decide)), nI_clamp (show m < 2 ^ 31 by omega), lc_eq, hz, not_false_eq_true, if_true, tl, if_false]
  simp only [u_45_0, u_45_0n, u_45_1, u_45_4, u_45_5, u_45_6, pm_O_some, pm_w_nil, pm_w_i, pm_w_l, pm_w_r, pm_w_n, pm_c_n, pm_c_i, pm_c_l, pm_c_r, pm_c_u, Nat.reduceAdd, Nat.reduceLeDiff, true_and, Option.toList_some, Option.toList_none, List.cons_append, List.nil_append, ns_at0 v, gf_5_1]
  exact loop n hn
end NT

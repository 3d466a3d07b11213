/-! FRACTIONS AND SCALES of the program, as their values. -/
def FracV (B : Nat) (h : pm_H) (p : Nat) (s : Int32) (U L : Nat) : Prop := pm_at B h p = some (.inr (8, [.int s, .ref (p + 1), .ref (p + 3)])) ∧ NatV B h (p + 1) U ∧ NatV B h (p + 3) L
def ScV (B : Nat) (h : pm_H) (p : Nat) : Prop := ∃ V W, pm_at B h p = some (.inr (4, [.ref (p + 1), .ref (p + 3)])) ∧ NatV B h (p + 1) V ∧ NatV B h (p + 3) W
section FR
variable {B : Nat} {X : pm_X} {h h' : pm_H} {Q : Option Value → pm_H → Prop} {a b p q sc lo hi U L U2 L2 : Nat} {s s2 : Int32}
theorem FracV.frm (n1 : FracV B h p s U L) (f1 : Frm B h h' lo hi) (d : p + 5 ≤ lo ∨ hi ≤ p) : FracV B h' p s U L := ⟨by rw [f1.2.2 _ (by omega)]; exact n1.1, n1.2.1.frm f1 (by omega), n1.2.2.frm f1 (by omega)⟩
theorem FracV.io (n1 : FracV B h p s U L) : pm_io B h p 8 = true := pm_io_of n1.1
theorem ScV.frm (n1 : ScV B h p) (f1 : Frm B h h' lo hi) (d : p + 5 ≤ lo ∨ hi ≤ p) : ScV B h' p := by
  obtain ⟨V, W, h1, h2, h3⟩ := n1
  exact ⟨V, W, by rw [f1.2.2 _ (by omega)]; exact h1, h2.frm f1 (by omega), h3.frm f1 (by omega)⟩
theorem ScV.io (n1 : ScV B h p) : pm_io B h p 4 = true := by
  obtain ⟨V, W, h1, h2, h3⟩ := n1
  exact pm_io_of h1
theorem c_fcopy (n1 : FracV B h p s U L) (n2 : FracV B h q s2 U2 L2) (d : q + 5 ≤ p ∨ p + 5 ≤ q) (hQ : ∀ h', FracV B h' p s2 U2 L2 → Frm B h h' p (p + 5) → Q none h') : PW B X 59 0 [some (.ref p), some (.ref q)] [] h Q := by
  obtain ⟨h1, h2, h3⟩ := n1
  obtain ⟨g1, g2, g3⟩ := n2
  simp only [u_59_0, u_59_0n, u_59_1, u_59_1n, u_59_2, u_59_5, u_59_8, u_59_8n, u_59_9, u_59_12, u_59_12n, pm_O_some, pm_w_nil, pm_w_i, pm_w_l, pm_w_r, pm_w_n, pm_c_n, pm_c_i, pm_c_l, pm_c_r, pm_c_u, Nat.reduceAdd, Nat.reduceLeDiff, true_and, Option.toList_some, Option.toList_none, List.cons_append, List.nil_append, h1, g1, gf_8_0, gf_8_1, pf_8_0]
  have F0 := Frm.set (e := .inr (8, [.int s2, .ref (p + 1), .ref (p + 3)])) h1 rfl
  have k1 := pm_at_self (e := .inr (8, [.int s2, .ref (p + 1), .ref (p + 3)])) (pm_v_at h1)
  generalize pm_set B h p (.inr (8, [.int s2, .ref (p + 1), .ref (p + 3)])) = ha at F0 k1 ⊢
  have j1 := h2.frm F0 (by omega)
  have j2 := h3.frm F0 (by omega)
  have j3 : pm_at B ha q = _ := (F0.2.2 q (by omega)).trans g1
  have j4 := g2.frm F0 (by omega)
  have j5 := g3.frm F0 (by omega)
  simp only [u_59_8, u_59_8n, u_59_9, u_59_12, u_59_12n, u_59_13, u_59_16, pm_O_some, pm_w_nil, pm_w_i, pm_w_l, pm_w_r, pm_w_n, pm_c_n, pm_c_i, pm_c_l, pm_c_r, pm_c_u, Nat.reduceAdd, Nat.reduceLeDiff, true_and, Option.toList_some, Option.toList_none, List.cons_append, List.nil_append, k1, j3, gf_8_1, j1.io]
  refine c_ncopy j1 j4 (by omega) (fun hb n1 F1 => ?_)
  have k2 : pm_at B hb p = _ := (F1.2.2 p (by omega)).trans k1
  have k3 : pm_at B hb q = _ := (F1.2.2 q (by omega)).trans j3
  have i2 := j2.frm F1 (by omega)
  have i5 := j5.frm F1 (by omega)
  simp only [u_59_19, u_59_19n, u_59_20, u_59_23, u_59_23n, u_59_24, u_59_27, u_59_30, pm_O_some, pm_w_nil, pm_w_i, pm_w_l, pm_w_r, pm_w_n, pm_c_n, pm_c_i, pm_c_l, pm_c_r, pm_c_u, Nat.reduceAdd, Nat.reduceLeDiff, true_and, Option.toList_some, Option.toList_none, List.cons_append, List.nil_append, k2, k3, gf_8_2, i2.io]
  refine c_ncopy i2 i5 (by omega) (fun hc n2 F2 => ?_)
  simp only [u_59_30, pm_O_some, pm_w_nil, pm_w_i, pm_w_l, pm_w_r, pm_w_n, pm_c_n, pm_c_i, pm_c_l, pm_c_r, pm_c_u, Nat.reduceAdd, Nat.reduceLeDiff, true_and, Option.toList_some, Option.toList_none, List.cons_append, List.nil_append]
  refine hQ hc ⟨(F2.2.2 p (by omega)).trans k2, n1.frm F2 (by omega), n2⟩ ?_
  exact ((F0.mono (by omega) (by omega)).trans (F1.mono (by omega) (by omega))).trans (F2.mono (by omega) (by omega))
theorem c_fpart {k : Nat} (n1 : FracV B h p s U L) (hk : k < 2 ^ 31) : PW B X 61 0 [some (.ref p), some (.int (nI k))] [] h Q ↔ Q (some (.long (lN (if k % 2 = 0 then d18 U (k / 2) else d18 L (k / 2))))) h := by
  obtain ⟨h1, h2, h3⟩ := n1
  have e0 : ¬ nI k = -1 := fun z => by
    have := nI_toInt hk
    rw [z] at this
    have h9 : ((-1 : Int32)).toInt = -1 := by decide
    omega
  have e1 : nI k - nI k / 2 * 2 = nI (k % 2) := pk_rem hk (by decide) (by decide : 2 < 2 ^ 31)
  have e2 : nI k / 2 = nI (k / 2) := pk_div hk (by decide) (by decide : 2 < 2 ^ 31)
  rw [e2] at e1
  have e3 : ¬ (2 : Int32) = 0 := by decide
  by_cases hp : k % 2 = 0
  · have e4 : nI (k % 2) = 0 := by rw [hp]; rfl
    simp only [u_61_0, u_61_1, u_61_2, u_61_5, u_61_5n, u_61_6, u_61_9, u_61_10, u_61_11, u_61_12, u_61_13, u_61_14, u_61_17, u_61_17n, u_61_18, u_61_21, u_61_22, u_61_23, u_61_24, u_61_27, u_61_30, u_61_30n, u_61_31, u_61_34, u_61_35, u_61_36, u_61_37, u_61_40, pm_O_some, pm_w_nil, pm_w_i, pm_w_l, pm_w_r, pm_w_n, pm_c_n, pm_c_i, pm_c_l, pm_c_r, pm_c_u, Nat.reduceAdd, Nat.reduceLeDiff, true_and, Option.toList_some, Option.toList_none, List.cons_append, List.nil_append, e0, not_false_eq_true, if_true, e1, e2, e3, e4, nI_0, not_true, if_false, h1, gf_8_0, gf_8_1, gf_8_2, h2.io, c_n18 h2 (show k / 2 < 2 ^ 31 by omega), hp]
  · have e4 : ¬ nI (k % 2) = 0 := fun z => hp ((nI_eq (by omega) (by decide)).mp z)
    simp only [u_61_0, u_61_1, u_61_2, u_61_5, u_61_5n, u_61_6, u_61_9, u_61_10, u_61_11, u_61_12, u_61_13, u_61_14, u_61_17, u_61_17n, u_61_18, u_61_21, u_61_22, u_61_23, u_61_24, u_61_27, u_61_30, u_61_30n, u_61_31, u_61_34, u_61_35, u_61_36, u_61_37, u_61_40, pm_O_some, pm_w_nil, pm_w_i, pm_w_l, pm_w_r, pm_w_n, pm_c_n, pm_c_i, pm_c_l, pm_c_r, pm_c_u, Nat.reduceAdd, Nat.reduceLeDiff, true_and, Option.toList_some, Option.toList_none, List.cons_append, List.nil_append, e0, not_false_eq_true, if_true, e1, e2, e3, e4, if_false, h1, gf_8_0, gf_8_1, gf_8_2, h3.io, c_n18 h3 (show k / 2 < 2 ^ 31 by omega), hp]
theorem c_fsign (n1 : FracV B h p s U L) : PW B X 61 0 [some (.ref p), some (.int (-1))] [] h Q ↔ Q (some (.long s.toInt64)) h := by
  obtain ⟨h1, h2, h3⟩ := n1
  simp only [u_61_0, u_61_1, u_61_2, u_61_5, u_61_5n, u_61_6, u_61_9, u_61_10, u_61_11, u_61_12, u_61_13, u_61_14, u_61_17, u_61_17n, u_61_18, u_61_21, u_61_22, u_61_23, u_61_24, u_61_27, u_61_30, u_61_30n, u_61_31, u_61_34, u_61_35, u_61_36, u_61_37, u_61_40, pm_O_some, pm_w_nil, pm_w_i, pm_w_l, pm_w_r, pm_w_n, pm_c_n, pm_c_i, pm_c_l, pm_c_r, pm_c_u, Nat.reduceAdd, Nat.reduceLeDiff, true_and, Option.toList_some, Option.toList_none, List.cons_append, List.nil_append, not_true, if_false, h1, gf_8_0]
theorem c_cmpSizes (n0 : ScV B h sc) (n1 : FracV B h p s U L) (n2 : FracV B h q s2 U2 L2) (hU : U < 1000000000 ^ 6) (hL : L < 1000000000 ^ 6) (hU2 : U2 < 1000000000 ^ 6) (hL2 : L2 < 1000000000 ^ 6) (d1 : p + 5 ≤ sc ∨ sc + 5 ≤ p) (d2 : q + 5 ≤ sc ∨ sc + 5 ≤ q)
    (hQ : ∀ h', ScV B h' sc → Frm B h h' (sc + 1) (sc + 5) → Q (some (.int (ci (U * L2) (U2 * L)))) h') : PW B X 57 0 [some (.ref sc), some (.ref p), some (.ref q)] [] h Q := by
  obtain ⟨h1, h2, h3⟩ := n1
  obtain ⟨g1, g2, g3⟩ := n2
  obtain ⟨V, W, m1, m2, m3⟩ := n0
  simp only [u_57_0, u_57_0n, u_57_1, u_57_4, u_57_4n, u_57_5, u_57_8, u_57_8n, u_57_9, u_57_12, pm_O_some, pm_w_nil, pm_w_i, pm_w_l, pm_w_r, pm_w_n, pm_c_n, pm_c_i, pm_c_l, pm_c_r, pm_c_u, Nat.reduceAdd, Nat.reduceLeDiff, true_and, Option.toList_some, Option.toList_none, List.cons_append, List.nil_append, h1, g1, m1, gf_8_1, gf_8_2, gf_4_0, m2.io]
  refine c_nprod m2 h2 g3 (by omega) (by omega) hU hL2 (by omega) (fun ha k1 F1 => ?_)
  have a1 : pm_at B ha p = _ := (F1.2.2 p (by omega)).trans h1
  have a2 : pm_at B ha q = _ := (F1.2.2 q (by omega)).trans g1
  have a3 : pm_at B ha sc = _ := (F1.2.2 sc (by omega)).trans m1
  have a4 := m3.frm F1 (by omega)
  simp only [u_57_15, u_57_15n, u_57_16, u_57_19, u_57_19n, u_57_20, u_57_23, u_57_23n, u_57_24, u_57_27, pm_O_some, pm_w_nil, pm_w_i, pm_w_l, pm_w_r, pm_w_n, pm_c_n, pm_c_i, pm_c_l, pm_c_r, pm_c_u, Nat.reduceAdd, Nat.reduceLeDiff, true_and, Option.toList_some, Option.toList_none, List.cons_append, List.nil_append, a1, a2, a3, gf_8_1, gf_8_2, gf_4_1, a4.io]
  refine c_nprod a4 (g2.frm F1 (by omega)) (h3.frm F1 (by omega)) (by omega) (by omega) hU2 hL (by omega) (fun hb k2 F2 => ?_)
  have b3 : pm_at B hb sc = _ := (F2.2.2 sc (by omega)).trans a3
  have b4 := k1.frm F2 (by omega)
  simp only [u_57_30, u_57_30n, u_57_31, u_57_34, u_57_34n, u_57_35, u_57_38, u_57_41, pm_O_some, pm_w_nil, pm_w_i, pm_w_l, pm_w_r, pm_w_n, pm_c_n, pm_c_i, pm_c_l, pm_c_r, pm_c_u, Nat.reduceAdd, Nat.reduceLeDiff, true_and, Option.toList_some, Option.toList_none, List.cons_append, List.nil_append, b3, gf_4_0, gf_4_1, b4.io, c_ncmp b4 k2]
  exact hQ hb ⟨_, _, b3, b4, k2⟩ ((F1.mono (by omega) (by omega)).trans (F2.mono (by omega) (by omega)))
theorem c_cmp (n0 : ScV B h sc) (n1 : FracV B h p s U L) (n2 : FracV B h q s2 U2 L2) (hU : U < 1000000000 ^ 6) (hL : L < 1000000000 ^ 6) (hU2 : U2 < 1000000000 ^ 6) (hL2 : L2 < 1000000000 ^ 6) (d1 : p + 5 ≤ sc ∨ sc + 5 ≤ p) (d2 : q + 5 ≤ sc ∨ sc + 5 ≤ q)
    (hQ : ∀ h', ScV B h' sc → Frm B h h' (sc + 1) (sc + 5) → Q (some (.int (if s = s2 then s * ci (U * L2) (U2 * L) else if s < s2 then -1 else 1))) h') : PW B X 56 0 [some (.ref sc), some (.ref p), some (.ref q)] [] h Q := by
  by_cases hs : s = s2
  · have hQ := hQ
    simp only [if_pos hs] at hQ
    have e1 := n1.1
    have e2 := n2.1
    simp only [u_56_0, u_56_0n, u_56_1, u_56_4, u_56_4n, u_56_5, u_56_8, u_56_23, u_56_23n, u_56_24, u_56_27, u_56_27n, u_56_28, u_56_28n, u_56_29, u_56_29n, u_56_30, pm_O_some, pm_w_nil, pm_w_i, pm_w_l, pm_w_r, pm_w_n, pm_c_n, pm_c_i, pm_c_l, pm_c_r, pm_c_u, Nat.reduceAdd, Nat.reduceLeDiff, true_and, Option.toList_some, Option.toList_none, List.cons_append, List.nil_append, e1, e2, gf_8_0, if_pos hs, n0.io]
    refine c_cmpSizes n0 n1 n2 hU hL hU2 hL2 d1 d2 (fun h' k1 F1 => ?_)
    simp only [u_56_33, u_56_34, pm_O_some, pm_w_nil, pm_w_i, pm_w_l, pm_w_r, pm_w_n, pm_c_n, pm_c_i, pm_c_l, pm_c_r, pm_c_u, Nat.reduceAdd, Nat.reduceLeDiff, true_and, Option.toList_some, Option.toList_none, List.cons_append, List.nil_append]
    exact hQ h' k1 F1
  · have hQ := hQ h n0 Frm.rfl'
    simp only [if_neg hs] at hQ
    have e1 := n1.1
    have e2 := n2.1
    simp only [u_56_0, u_56_0n, u_56_1, u_56_4, u_56_4n, u_56_5, u_56_8, u_56_11, u_56_11n, u_56_12, u_56_15, u_56_15n, u_56_16, u_56_19, u_56_22, pm_O_some, pm_w_nil, pm_w_i, pm_w_l, pm_w_r, pm_w_n, pm_c_n, pm_c_i, pm_c_l, pm_c_r, pm_c_u, Nat.reduceAdd, Nat.reduceLeDiff, true_and, Option.toList_some, Option.toList_none, List.cons_append, List.nil_append, e1, e2, gf_8_0, if_neg hs, s_icompare]
    exact hQ
theorem c_atMost {k : Nat} (n0 : ScV B h sc) (n1 : FracV B h p s U L) (hL : L < 1000000000 ^ 6) (hk : k < 1000000000) (d1 : p + 5 ≤ sc ∨ sc + 5 ≤ p) (hQ : ∀ h', ScV B h' sc → Frm B h h' (sc + 1) (sc + 5) → Q (some (.int (if U ≤ L * k then 1 else 0))) h') :
    PW B X 82 0 [some (.ref sc), some (.ref p), some (.int (nI k))] [] h Q := by
  obtain ⟨h1, h2, h3⟩ := n1
  obtain ⟨V, W, m1, m2, m3⟩ := n0
  simp only [u_82_0, u_82_0n, u_82_1, u_82_4, u_82_4n, u_82_5, u_82_8, pm_O_some, pm_w_nil, pm_w_i, pm_w_l, pm_w_r, pm_w_n, pm_c_n, pm_c_i, pm_c_l, pm_c_r, pm_c_u, Nat.reduceAdd, Nat.reduceLeDiff, true_and, Option.toList_some, Option.toList_none, List.cons_append, List.nil_append, h1, m1, gf_8_2, gf_4_1, m3.io]
  refine c_ncopy m3 h3 (by omega) (fun ha k1 F1 => ?_)
  have a1 : pm_at B ha p = _ := (F1.2.2 p (by omega)).trans h1
  have a3 : pm_at B ha sc = _ := (F1.2.2 sc (by omega)).trans m1
  simp only [u_82_11, u_82_11n, u_82_12, u_82_15, u_82_16, u_82_17, pm_O_some, pm_w_nil, pm_w_i, pm_w_l, pm_w_r, pm_w_n, pm_c_n, pm_c_i, pm_c_l, pm_c_r, pm_c_u, Nat.reduceAdd, Nat.reduceLeDiff, true_and, Option.toList_some, Option.toList_none, List.cons_append, List.nil_append, a3, gf_4_1, k1.io, nI_l (show k < 2 ^ 31 by omega)]
  have hLk : L * k < 1000000000 ^ 6 * 1000000000 := Nat.mul_lt_mul'' hL hk
  refine c_nmul k1 hk (by omega) (fun hb k2 F2 => ?_)
  have b1 : pm_at B hb p = _ := (F2.2.2 p (by omega)).trans a1
  have b3 : pm_at B hb sc = _ := (F2.2.2 sc (by omega)).trans a3
  have b4 := (h2.frm F1 (by omega)).frm F2 (by omega)
  simp only [u_82_20, u_82_20n, u_82_21, u_82_24, u_82_24n, u_82_25, u_82_28, u_82_31, pm_O_some, pm_w_nil, pm_w_i, pm_w_l, pm_w_r, pm_w_n, pm_c_n, pm_c_i, pm_c_l, pm_c_r, pm_c_u, Nat.reduceAdd, Nat.reduceLeDiff, true_and, Option.toList_some, Option.toList_none, List.cons_append, List.nil_append, b1, b3, gf_8_1, gf_4_1, b4.io, c_ncmp b4 k2]
  have hfin := hQ hb ⟨_, _, b3, (m2.frm F1 (by omega)).frm F2 (by omega), k2⟩ ((F1.mono (by omega) (by omega)).trans (F2.mono (by omega) (by omega)))
  by_cases z : U ≤ L * k
  · have e : ¬ 0 < ci U (L * k) := by
      unfold ci
      rcases Nat.lt_or_ge U (L * k) with y | y
      · rw [if_pos y]; decide
      · rw [if_neg (by omega), if_pos (by omega)]; decide
    rw [if_pos z] at hfin
    simp only [u_82_34, u_82_35, u_82_38, u_82_39, u_82_39_0, u_82_39_1, pm_O_some, pm_w_nil, pm_w_i, pm_w_l, pm_w_r, pm_w_n, pm_c_n, pm_c_i, pm_c_l, pm_c_r, pm_c_u, Nat.reduceAdd, Nat.reduceLeDiff, true_and, Option.toList_some, Option.toList_none, List.cons_append, List.nil_append, if_neg e]
    exact hfin
  · have e : 0 < ci U (L * k) := by
      unfold ci
      rw [if_neg (by omega), if_neg (by omega)]; decide
    rw [if_neg z] at hfin
    simp only [u_82_34, u_82_35, u_82_38, u_82_39, u_82_39_0, u_82_39_1, pm_O_some, pm_w_nil, pm_w_i, pm_w_l, pm_w_r, pm_w_n, pm_c_n, pm_c_i, pm_c_l, pm_c_r, pm_c_u, Nat.reduceAdd, Nat.reduceLeDiff, true_and, Option.toList_some, Option.toList_none, List.cons_append, List.nil_append, if_pos e]
    exact hfin
end FR

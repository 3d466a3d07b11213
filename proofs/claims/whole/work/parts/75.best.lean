/-! best. -/
def lsr (lm ll : Nat → Nat) (k j : Nat) : Prop := ll k < ll j ∨ (ll k = ll j ∧ lm k < lm j)
def nq (g : Bg) (nr : Nat) (sz : Nat → Nat) (tm : Nat → Nat → Tm) (k : Nat) : Rat := if k = 2 then (GM g nr sz tm 2).1 else wq (LM g nr sz tm k).1 (GM g nr sz tm k).1 2
def hld (q0 q1 q2 : Rat) (m l : Nat) : Prop := q0.num.natAbs ≤ q0.den * m ∧ q1.num.natAbs ≤ q1.den * m ∧ (q2.num < 0 ∨ q2.num.natAbs ≤ q2.den * l)
noncomputable def bst (q0 q1 q2 : Rat) (lm ll : Nat → Nat) : Nat → Int32
  | 0 => -1
  | k + 1 => Classical.epsilon (fun r : Int32 => (hld q0 q1 q2 (lm k) (ll k) ∧ (bst q0 q1 q2 lm ll k = -1 ∨ lsr lm ll k (ix (bst q0 q1 q2 lm ll k))) ∧ r = nI k) ∨ (¬ (hld q0 q1 q2 (lm k) (ll k) ∧ (bst q0 q1 q2 lm ll k = -1 ∨ lsr lm ll k (ix (bst q0 q1 q2 lm ll k)))) ∧ r = bst q0 q1 q2 lm ll k))
section BE
variable {B : Nat} {X : pm_X} {h h' h2 : pm_H} {Q : Option Value → pm_H → Prop} {e lo hi n ln nr nd nl i a k j : Nat} {bs : Nat → Bg} {tx sz lm ll : Nat → Nat} {tm : Nat → Nat → Tm} {dy : Nat → Int} {jk : Option (Nat × Nat)} {g : Bg} {b x y z ax w wh pt : Int32} {q q0 q1 q2 : Rat} {tt : Int} {lq gq : Rat} {lc gc : Int32}
theorem bst_t (h1 : hld q0 q1 q2 (lm k) (ll k)) (h2 : bst q0 q1 q2 lm ll k = -1 ∨ lsr lm ll k (ix (bst q0 q1 q2 lm ll k))) : bst q0 q1 q2 lm ll (k + 1) = nI k := by
  rw [bst]
  rcases Classical.epsilon_spec (p := fun r : Int32 => (hld q0 q1 q2 (lm k) (ll k) ∧ (bst q0 q1 q2 lm ll k = -1 ∨ lsr lm ll k (ix (bst q0 q1 q2 lm ll k))) ∧ r = nI k) ∨ (¬ (hld q0 q1 q2 (lm k) (ll k) ∧ (bst q0 q1 q2 lm ll k = -1 ∨ lsr lm ll k (ix (bst q0 q1 q2 lm ll k)))) ∧ r = bst q0 q1 q2 lm ll k)) ⟨nI k, Or.inl ⟨h1, h2, rfl⟩⟩ with z | z
  · exact z.2.2
  · exact absurd ⟨h1, h2⟩ z.1
theorem bst_f (h1 : ¬ (hld q0 q1 q2 (lm k) (ll k) ∧ (bst q0 q1 q2 lm ll k = -1 ∨ lsr lm ll k (ix (bst q0 q1 q2 lm ll k))))) : bst q0 q1 q2 lm ll (k + 1) = bst q0 q1 q2 lm ll k := by
  rw [bst]
  rcases Classical.epsilon_spec (p := fun r : Int32 => (hld q0 q1 q2 (lm k) (ll k) ∧ (bst q0 q1 q2 lm ll k = -1 ∨ lsr lm ll k (ix (bst q0 q1 q2 lm ll k))) ∧ r = nI k) ∨ (¬ (hld q0 q1 q2 (lm k) (ll k) ∧ (bst q0 q1 q2 lm ll k = -1 ∨ lsr lm ll k (ix (bst q0 q1 q2 lm ll k)))) ∧ r = bst q0 q1 q2 lm ll k)) ⟨_, Or.inr ⟨h1, rfl⟩⟩ with z | z
  · exact absurd ⟨z.1, z.2.1⟩ h1
  · exact z.2
theorem bst_r : ∀ k, bst q0 q1 q2 lm ll k = -1 ∨ ∃ j, j < k ∧ bst q0 q1 q2 lm ll k = nI j := by
  intro k
  induction k with
  | zero => exact Or.inl rfl
  | succ k ih =>
    by_cases z : hld q0 q1 q2 (lm k) (ll k) ∧ (bst q0 q1 q2 lm ll k = -1 ∨ lsr lm ll k (ix (bst q0 q1 q2 lm ll k)))
    · exact Or.inr ⟨k, by omega, bst_t z.1 z.2⟩
    · rw [bst_f z]
      rcases ih with y | ⟨j, y1, y2⟩
      · exact Or.inl y
      · exact Or.inr ⟨j, by omega, y2⟩
theorem c_lesser (n1 : CC B h n bs ln tx nr sz tm nd dy nl lm ll jk) (hk : k < nl) (hj : j < nl) (ht : lsr lm ll k j → Q (some (.int 1)) h) (hf : ¬ lsr lm ll k j → Q (some (.int 0)) h) : PW B X 83 0 [some (.ref B), some (.int (nI k)), some (.int (nI j))] [] h Q := by
  obtain ⟨rs, rs2, lw, jh, jm, ra, a1⟩ := n1.ob
  obtain ⟨⟨_, _, _, _, _, _, _, _, _, _, _, _, ⟨l1, f, g, l2, l3, l4⟩, _⟩, _⟩ := n1
  have q1 := l4 k hk
  have q2 := l4 j hj
  unfold lsr at ht hf
  have K : pm_ix (nI k) 12 = true := pm_ix_of (show k < 12 by omega) (by decide)
  have J : pm_ix (nI j) 12 = true := pm_ix_of (show j < 12 by omega) (by decide)
  by_cases h1 : ll k = ll j
  · have e1 : nI (ll k) = nI (ll j) := by rw [h1]
    by_cases h2 : lm k < lm j
    · have e2 : ¬ nI (lm j) ≤ nI (lm k) := nI_ge h2 (by omega)
      simp only [u_83_0, u_83_0n, u_83_1, u_83_4, u_83_5, u_83_6, u_83_6n, u_83_7, u_83_10, u_83_11, u_83_12, u_83_15, u_83_15n, u_83_16, u_83_19, u_83_20, u_83_21, u_83_21n, u_83_22, u_83_25, u_83_26, u_83_27, u_83_30, u_83_31, u_83_34, u_83_35, u_83_35_0, u_83_35_1, u_83_36, u_83_36n, u_83_37, u_83_40, u_83_41, u_83_42, u_83_42n, u_83_43, u_83_46, u_83_47, u_83_48, u_83_51, u_83_52, u_83_55, u_83_56, u_83_56_0, u_83_56_1, pm_O_some, pm_w_nil, pm_w_i, pm_w_l, pm_w_r, pm_w_n, pm_c_n, pm_c_i, pm_c_l, pm_c_r, pm_c_u, Nat.reduceAdd, Nat.reduceLeDiff, true_and, Option.toList_some, Option.toList_none, List.cons_append, List.nil_append, a1, gf_0_13, gf_0_14, l2, l3, ld_i (t := 0) K rfl, ld_i (t := 0) J rfl, nI_clamp (show k < 2 ^ 31 by omega), nI_clamp (show j < 2 ^ 31 by omega), q1.1, q2.1, q1.2.2.1, q2.2.2.1, if_pos e1, if_neg e2]
      exact ht (Or.inr ⟨h1, h2⟩)
    · have e2 : nI (lm j) ≤ nI (lm k) := nI_le (by omega) (by omega)
      simp only [u_83_0, u_83_0n, u_83_1, u_83_4, u_83_5, u_83_6, u_83_6n, u_83_7, u_83_10, u_83_11, u_83_12, u_83_15, u_83_15n, u_83_16, u_83_19, u_83_20, u_83_21, u_83_21n, u_83_22, u_83_25, u_83_26, u_83_27, u_83_30, u_83_31, u_83_34, u_83_35, u_83_35_0, u_83_35_1, u_83_36, u_83_36n, u_83_37, u_83_40, u_83_41, u_83_42, u_83_42n, u_83_43, u_83_46, u_83_47, u_83_48, u_83_51, u_83_52, u_83_55, u_83_56, u_83_56_0, u_83_56_1, pm_O_some, pm_w_nil, pm_w_i, pm_w_l, pm_w_r, pm_w_n, pm_c_n, pm_c_i, pm_c_l, pm_c_r, pm_c_u, Nat.reduceAdd, Nat.reduceLeDiff, true_and, Option.toList_some, Option.toList_none, List.cons_append, List.nil_append, a1, gf_0_13, gf_0_14, l2, l3, ld_i (t := 0) K rfl, ld_i (t := 0) J rfl, nI_clamp (show k < 2 ^ 31 by omega), nI_clamp (show j < 2 ^ 31 by omega), q1.1, q2.1, q1.2.2.1, q2.2.2.1, if_pos e1, if_pos e2]
      exact hf (by omega)
  · have e1 : ¬ nI (ll k) = nI (ll j) := fun c => h1 ((nI_eq (by omega) (by omega)).mp c)
    by_cases h2 : ll k < ll j
    · have e2 : ¬ nI (ll j) ≤ nI (ll k) := nI_ge h2 (by omega)
      simp only [u_83_0, u_83_0n, u_83_1, u_83_4, u_83_5, u_83_6, u_83_6n, u_83_7, u_83_10, u_83_11, u_83_12, u_83_15, u_83_15n, u_83_16, u_83_19, u_83_20, u_83_21, u_83_21n, u_83_22, u_83_25, u_83_26, u_83_27, u_83_30, u_83_31, u_83_34, u_83_35, u_83_35_0, u_83_35_1, u_83_36, u_83_36n, u_83_37, u_83_40, u_83_41, u_83_42, u_83_42n, u_83_43, u_83_46, u_83_47, u_83_48, u_83_51, u_83_52, u_83_55, u_83_56, u_83_56_0, u_83_56_1, pm_O_some, pm_w_nil, pm_w_i, pm_w_l, pm_w_r, pm_w_n, pm_c_n, pm_c_i, pm_c_l, pm_c_r, pm_c_u, Nat.reduceAdd, Nat.reduceLeDiff, true_and, Option.toList_some, Option.toList_none, List.cons_append, List.nil_append, a1, gf_0_13, gf_0_14, l2, l3, ld_i (t := 0) K rfl, ld_i (t := 0) J rfl, nI_clamp (show k < 2 ^ 31 by omega), nI_clamp (show j < 2 ^ 31 by omega), q1.1, q2.1, q1.2.2.1, q2.2.2.1, if_neg e1, if_neg e2]
      exact ht (Or.inl h2)
    · have e2 : nI (ll j) ≤ nI (ll k) := nI_le (by omega) (by omega)
      simp only [u_83_0, u_83_0n, u_83_1, u_83_4, u_83_5, u_83_6, u_83_6n, u_83_7, u_83_10, u_83_11, u_83_12, u_83_15, u_83_15n, u_83_16, u_83_19, u_83_20, u_83_21, u_83_21n, u_83_22, u_83_25, u_83_26, u_83_27, u_83_30, u_83_31, u_83_34, u_83_35, u_83_35_0, u_83_35_1, u_83_36, u_83_36n, u_83_37, u_83_40, u_83_41, u_83_42, u_83_42n, u_83_43, u_83_46, u_83_47, u_83_48, u_83_51, u_83_52, u_83_55, u_83_56, u_83_56_0, u_83_56_1, pm_O_some, pm_w_nil, pm_w_i, pm_w_l, pm_w_r, pm_w_n, pm_c_n, pm_c_i, pm_c_l, pm_c_r, pm_c_u, Nat.reduceAdd, Nat.reduceLeDiff, true_and, Option.toList_some, Option.toList_none, List.cons_append, List.nil_append, a1, gf_0_13, gf_0_14, l2, l3, ld_i (t := 0) K rfl, ld_i (t := 0) J rfl, nI_clamp (show k < 2 ^ 31 by omega), nI_clamp (show j < 2 ^ 31 by omega), q1.1, q2.1, q1.2.2.1, q2.2.2.1, if_neg e1, if_pos e2]
      exact hf (by omega)
theorem ExR.sc (n1 : ExR B h e lq lc gq gc) (F : Frm B h h' (e + 1) (e + 5)) (n2 : ScV B h' e) : ExR B h' e lq lc gq gc := by
  obtain ⟨y1, ⟨P, M, R, G, j, y2⟩, ⟨s0, U0, L0, y3⟩, y4, y5, y6, y7, y8⟩ := n1
  exact ⟨(F.2.2 _ (by omega)).trans y1, ⟨_, _, _, _, _, y2.frm F (by omega)⟩, ⟨_, _, _, y3.frm F (by omega)⟩, y4.frm F (by omega), y5.frm F (by omega), y6, y7, n2⟩
/-- the needs are laid -/
def ND (B : Nat) (h : pm_H) (q0 q1 q2 : Rat) : Prop := (FracQ B h (B + 54) q0 ∧ sml q0) ∧ (FracQ B h (B + 59) q1 ∧ sml q1) ∧ (FracQ B h (B + 64) q2 ∧ sml q2)
theorem ND.frm (n1 : ND B h q0 q1 q2) (f1 : Frm B h h' lo hi) (d : hi ≤ B + 54 ∨ B + 69 ≤ lo) : ND B h' q0 q1 q2 := ⟨⟨n1.1.1.frm f1 (by omega), n1.1.2⟩, ⟨n1.2.1.1.frm f1 (by omega), n1.2.1.2⟩, ⟨n1.2.2.1.frm f1 (by omega), n1.2.2.2⟩⟩
theorem c_most {p : Nat} (n1 : CC B h n bs ln tx nr sz tm nd dy nl lm ll jk) (n3 : ND B h q0 q1 q2) (hp : FracQ B h p q) (hs : sml q) (dp : B + 48 ≤ p) (hk : k < 1000000000) (hQ : ∀ h', CC B h' n bs ln tx nr sz tm nd dy nl lm ll jk → ND B h' q0 q1 q2 → Frm B h h' (B + 17) (B + 48) → Q (some (.int (if q.num.natAbs ≤ q.den * k then 1 else 0))) h') :
    PW B X 82 0 [some (.ref (B + 17)), some (.ref p), some (.int (nI k))] [] h Q := by
  obtain ⟨lq, lc, gq, gc, x1⟩ := n1.2.2.1
  refine c_atMost x1.2.2.2.2.2.2.2 hp hs.2 hk (by omega) (fun hA y1 y2 => ?_)
  have F : Frm B h hA (B + 17) (B + 48) := y2.mono (by omega) (by omega)
  exact hQ hA ⟨n1.1.frm F (by omega), n1.2.ex F (x1.sc y2 y1)⟩ (n3.frm F (by omega)) F
theorem CC.sio (n1 : CC B h n bs ln tx nr sz tm nd dy nl lm ll jk) : pm_io B h (B + 17) 4 = true := by
  obtain ⟨lq, lc, gq, gc, x1⟩ := n1.2.2.1
  exact x1.2.2.2.2.2.2.2.io
theorem c_holds (n1 : CC B h n bs ln tx nr sz tm nd dy nl lm ll jk) (n3 : ND B h q0 q1 q2) (hk : k < nl) (ht : hld q0 q1 q2 (lm k) (ll k) → ∀ h', CC B h' n bs ln tx nr sz tm nd dy nl lm ll jk → ND B h' q0 q1 q2 → Frm B h h' (B + 17) (B + 48) → Q (some (.int 1)) h')
    (hf : ¬ hld q0 q1 q2 (lm k) (ll k) → ∀ h', CC B h' n bs ln tx nr sz tm nd dy nl lm ll jk → ND B h' q0 q1 q2 → Frm B h h' (B + 17) (B + 48) → Q (some (.int 0)) h') : PW B X 81 0 [some (.ref B), some (.int (nI k))] [] h Q := by
  have key : ∀ hc, CC B hc n bs ln tx nr sz tm nd dy nl lm ll jk → (∃ (rs rs2 : Nat) (lw jh jm ra : Int32), pm_at B hc B = some (.inr (0, [.ref (B + 1), .int (nI n), .ref (B + 2), .ref (B + 3), .ref rs, .ref rs2, .ref (B + 17), .ref (B + 22), .ref (B + 48), .ref (B + 53), .int (nI nd), .int lw, .long (lN (wy dy nd)), .ref (B + 69), .ref (B + 70), .int (nI nl), .int jh, .int jm, .int ra]))) ∧ (∃ f g, pm_at B hc (B + 69) = some (.inl (0, 12, .inl f)) ∧ pm_at B hc (B + 70) = some (.inl (0, 12, .inl g)) ∧ f k = nI (lm k) ∧ lm k ≤ 100000 ∧ g k = nI (ll k) ∧ ll k ≤ 10000000) ∧ (∃ fb, pm_at B hc (B + 53) = some (.inl (5, 3, .inr (.inr (.inr (.inr fb))))) ∧ fb 0 = some (B + 54) ∧ fb 1 = some (B + 59) ∧ fb 2 = some (B + 64)) := by
    intro hc m1
    refine ⟨m1.ob, ?_, m1.2.2.2.2.1⟩
    obtain ⟨⟨_, _, _, _, _, _, _, _, _, _, _, _, ⟨l1, f, g, l2, l3, l4⟩, _⟩, _⟩ := m1
    exact ⟨f, g, l2, l3, l4 k hk⟩
  have hnl : nl ≤ 12 := by
    obtain ⟨⟨_, _, _, _, _, _, _, _, _, _, _, _, ⟨l1, _⟩, _⟩, _⟩ := n1
    exact l1
  have K : pm_ix (nI k) 12 = true := pm_ix_of (show k < 12 by omega) (by decide)
  unfold hld at ht hf
  obtain ⟨⟨rs, rs2, lw, jh, jm, ra, a1⟩, ⟨f, g, l2, l3, l4, l5, l6, l7⟩, ⟨fb, d1, d2, d3, d4⟩⟩ := key h n1
  simp only [u_81_0, u_81_0n, u_81_1, u_81_4, u_81_4n, u_81_5, u_81_8, u_81_9, u_81_10, u_81_10n, u_81_11, u_81_14, u_81_15, u_81_16, pm_O_some, pm_w_nil, pm_w_i, pm_w_l, pm_w_r, pm_w_n, pm_c_n, pm_c_i, pm_c_l, pm_c_r, pm_c_u, Nat.reduceAdd, Nat.reduceLeDiff, true_and, Option.toList_some, Option.toList_none, List.cons_append, List.nil_append, a1, gf_0_6, gf_0_9, gf_0_13, d1, ld_a (k := 1) ix_030 rfl, cl_0, d2, va_rf, l2, ld_i (t := 0) K rfl, nI_clamp (show k < 2 ^ 31 by omega), l4, n1.sio]
  refine c_most n1 n3 n3.1.1 n3.1.2 (by omega) (by omega) (fun hA m1 m2 m3 => ?_)
  by_cases c1 : q0.num.natAbs ≤ q0.den * lm k
  · rw [if_pos c1]
    obtain ⟨⟨rs, rs2, lw, jh, jm, ra, a1⟩, ⟨f, g, l2, l3, l4, l5, l6, l7⟩, ⟨fb, d1, d2, d3, d4⟩⟩ := key hA m1
    simp only [u_81_19, u_81_22, u_81_22n, u_81_23, u_81_26, u_81_26n, u_81_27, u_81_30, u_81_31, u_81_32, u_81_32n, u_81_33, u_81_36, u_81_37, u_81_38, pm_O_some, pm_w_nil, pm_w_i, pm_w_l, pm_w_r, pm_w_n, pm_c_n, pm_c_i, pm_c_l, pm_c_r, pm_c_u, Nat.reduceAdd, Nat.reduceLeDiff, true_and, Option.toList_some, Option.toList_none, List.cons_append, List.nil_append, i10, if_false, a1, gf_0_6, gf_0_9, gf_0_13, d1, ld_a (k := 1) ix_031 rfl, cl_1, d3, va_rf, l2, ld_i (t := 0) K rfl, nI_clamp (show k < 2 ^ 31 by omega), l4, m1.sio]
    refine c_most m1 m2 m2.2.1.1 m2.2.1.2 (by omega) (by omega) (fun hB o1 o2 o3 => ?_)
    by_cases c2 : q1.num.natAbs ≤ q1.den * lm k
    · rw [if_pos c2]
      obtain ⟨⟨rs, rs2, lw, jh, jm, ra, a1⟩, ⟨f, g, l2, l3, l4, l5, l6, l7⟩, ⟨fb, d1, d2, d3, d4⟩⟩ := key hB o1
      have fq := o2.2.2.1.1
      by_cases c3 : q2.num < 0
      · have e3 : sg q2.num < 0 := by unfold sg; rw [if_pos c3]; decide
        simp only [u_81_41, u_81_44, u_81_44n, u_81_45, u_81_48, u_81_49, u_81_50, u_81_53, u_81_56, u_81_56n, u_81_57, u_81_60, u_81_60n, u_81_61, u_81_64, u_81_65, u_81_66, u_81_66n, u_81_67, u_81_70, u_81_71, u_81_72, u_81_75, u_81_78, u_81_79, u_81_82, u_81_83, u_81_83_0, u_81_83_1, pm_O_some, pm_w_nil, pm_w_i, pm_w_l, pm_w_r, pm_w_n, pm_c_n, pm_c_i, pm_c_l, pm_c_r, pm_c_u, Nat.reduceAdd, Nat.reduceLeDiff, true_and, Option.toList_some, Option.toList_none, List.cons_append, List.nil_append, i10, if_false, a1, gf_0_9, d1, ld_a (k := 1) ix_032 rfl, cl_2, d4, va_rf, fq, gf_8_0, if_pos e3]
        exact ht ⟨c1, c2, Or.inl c3⟩ hB o1 o2 (m3.trans o3)
      · have e3 : ¬ sg q2.num < 0 := by unfold sg; rw [if_neg c3]; split <;> decide
        simp only [u_81_41, u_81_44, u_81_44n, u_81_45, u_81_48, u_81_49, u_81_50, u_81_53, u_81_56, u_81_56n, u_81_57, u_81_60, u_81_60n, u_81_61, u_81_64, u_81_65, u_81_66, u_81_66n, u_81_67, u_81_70, u_81_71, u_81_72, pm_O_some, pm_w_nil, pm_w_i, pm_w_l, pm_w_r, pm_w_n, pm_c_n, pm_c_i, pm_c_l, pm_c_r, pm_c_u, Nat.reduceAdd, Nat.reduceLeDiff, true_and, Option.toList_some, Option.toList_none, List.cons_append, List.nil_append, i10, if_false, a1, gf_0_6, gf_0_9, gf_0_14, d1, ld_a (k := 1) ix_032 rfl, cl_2, d4, va_rf, fq, gf_8_0, if_neg e3, l3, ld_i (t := 0) K rfl, nI_clamp (show k < 2 ^ 31 by omega), l6, o1.sio]
        refine c_most o1 o2 o2.2.2.1 o2.2.2.2 (by omega) (by omega) (fun hC p1 p2 p3 => ?_)
        by_cases c4 : q2.num.natAbs ≤ q2.den * ll k
        · rw [if_pos c4]
          simp only [u_81_75, u_81_78, u_81_79, u_81_82, u_81_83, u_81_83_0, u_81_83_1, pm_O_some, pm_w_nil, pm_w_i, pm_w_l, pm_w_r, pm_w_n, pm_c_n, pm_c_i, pm_c_l, pm_c_r, pm_c_u, Nat.reduceAdd, Nat.reduceLeDiff, true_and, Option.toList_some, Option.toList_none, List.cons_append, List.nil_append, i10, if_false]
          exact ht ⟨c1, c2, Or.inr c4⟩ hC p1 p2 ((m3.trans o3).trans p3)
        · rw [if_neg c4]
          simp only [u_81_75, u_81_78, u_81_79, u_81_82, u_81_83, u_81_83_0, u_81_83_1, pm_O_some, pm_w_nil, pm_w_i, pm_w_l, pm_w_r, pm_w_n, pm_c_n, pm_c_i, pm_c_l, pm_c_r, pm_c_u, Nat.reduceAdd, Nat.reduceLeDiff, true_and, Option.toList_some, Option.toList_none, List.cons_append, List.nil_append, i00, if_true]
          exact hf (fun c => by rcases c.2.2 with z | z; exact c3 z; exact c4 z) hC p1 p2 ((m3.trans o3).trans p3)
    · rw [if_neg c2]
      simp only [u_81_41, u_81_44, u_81_44n, u_81_45, u_81_48, u_81_49, u_81_50, u_81_53, u_81_56, u_81_56n, u_81_57, u_81_60, u_81_60n, u_81_61, u_81_64, u_81_65, u_81_66, u_81_66n, u_81_67, u_81_70, u_81_71, u_81_72, u_81_75, u_81_78, u_81_79, u_81_82, u_81_83, u_81_83_0, u_81_83_1, pm_O_some, pm_w_nil, pm_w_i, pm_w_l, pm_w_r, pm_w_n, pm_c_n, pm_c_i, pm_c_l, pm_c_r, pm_c_u, Nat.reduceAdd, Nat.reduceLeDiff, true_and, Option.toList_some, Option.toList_none, List.cons_append, List.nil_append, i00, if_true]
      exact hf (fun c => c2 c.2.1) hB o1 o2 (m3.trans o3)
  · rw [if_neg c1]
    simp only [u_81_19, u_81_22, u_81_22n, u_81_23, u_81_26, u_81_26n, u_81_27, u_81_30, u_81_31, u_81_32, u_81_32n, u_81_33, u_81_36, u_81_37, u_81_38, u_81_41, u_81_44, u_81_44n, u_81_45, u_81_48, u_81_49, u_81_50, u_81_53, u_81_56, u_81_56n, u_81_57, u_81_60, u_81_60n, u_81_61, u_81_64, u_81_65, u_81_66, u_81_66n, u_81_67, u_81_70, u_81_71, u_81_72, u_81_75, u_81_78, u_81_79, u_81_82, u_81_83, u_81_83_0, u_81_83_1, pm_O_some, pm_w_nil, pm_w_i, pm_w_l, pm_w_r, pm_w_n, pm_c_n, pm_c_i, pm_c_l, pm_c_r, pm_c_u, Nat.reduceAdd, Nat.reduceLeDiff, true_and, Option.toList_some, Option.toList_none, List.cons_append, List.nil_append, i00, if_true]
    exact hf (fun c => c1 c.1) hA m1 m2 m3
end BE

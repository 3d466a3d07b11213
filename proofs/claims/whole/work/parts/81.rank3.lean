/-! rank, locked. -/
def axs (bs : Nat → Bg) (n ax : Nat) (T : Int → Int → Prop) : Prop := (∃ f, f < n ∧ hd bs ax f ∧ ∀ a b, T a b ↔ ∃ i, i < n ∧ hd bs ax i ∧ a = pt bs ax i f ∧ b = pg bs ax i f) ∨ ((∀ i, i < n → ¬ hd bs ax i) ∧ ∀ a b, ¬ T a b)
theorem axs_in {bs : Nat → Bg} {n ax : Nat} {T : Int → Int → Prop} (hax : ax < 2) (h : axs bs n ax T) {a b : Int} (ht : T a b) : DD bs n a b := by
  rcases h with ⟨f, h1, h2, h3⟩ | ⟨_, h3⟩
  · obtain ⟨i, i1, i2, i3, i4⟩ := (h3 a b).mp ht
    exact ⟨ax, i, f, hax, i1, h1, i2, h2, i3, i4⟩
  · exact absurd ht (h3 a b)
theorem axs_out {bs : Nat → Bg} {n ax : Nat} {T : Int → Int → Prop} (hax : ax < 2) (h : axs bs n ax T) {i j : Nat} (hi : i < n) (hj : j < n) (di : hd bs ax i) (dj : hd bs ax j) : ∃ a1 b1 a2 b2, T a1 b1 ∧ T a2 b2 ∧ pt bs ax i j = a1 - a2 ∧ pg bs ax i j = b1 - b2 := by
  rcases h with ⟨f, h1, h2, h3⟩ | ⟨h3, _⟩
  · refine ⟨pt bs ax i f, pg bs ax i f, pt bs ax j f, pg bs ax j f, (h3 _ _).mpr ⟨i, hi, di, rfl, rfl⟩, (h3 _ _).mpr ⟨j, hj, dj, rfl, rfl⟩, ?_, ?_⟩
    · unfold pt
      split <;> omega
    · unfold pg
      split <;> omega
  · exact absurd di (h3 i hi)
theorem axs_rk {bs : Nat → Bg} {n : Nat} {T0 T1 S : Int → Int → Prop} (h0 : axs bs n 0 T0) (h1 : axs bs n 1 T1) (hS : ∀ a b, S a b ↔ T0 a b ∨ T1 a b) : (∀ a b, S a b → DD bs n a b) ∧ ∀ a b, DD bs n a b → ∃ a1 b1 a2 b2, S a1 b1 ∧ S a2 b2 ∧ a = a1 - a2 ∧ b = b1 - b2 := by
  refine ⟨fun a b h => ?_, fun a b h => ?_⟩
  · rcases (hS a b).mp h with z | z
    · exact axs_in (by omega) h0 z
    · exact axs_in (by omega) h1 z
  · obtain ⟨ax, i, j, hax, hi, hj, di, dj, rfl, rfl⟩ := h
    obtain rfl | rfl : ax = 0 ∨ ax = 1 := by omega
    · obtain ⟨a1, b1, a2, b2, t1, t2, t3, t4⟩ := axs_out hax h0 hi hj di dj
      exact ⟨a1, b1, a2, b2, (hS _ _).mpr (Or.inl t1), (hS _ _).mpr (Or.inl t2), t3, t4⟩
    · obtain ⟨a1, b1, a2, b2, t1, t2, t3, t4⟩ := axs_out hax h1 hi hj di dj
      exact ⟨a1, b1, a2, b2, (hS _ _).mpr (Or.inr t1), (hS _ _).mpr (Or.inr t2), t3, t4⟩
section RC
variable {B : Nat} {X : pm_X} {h h' h2 : pm_H} {Q : Option Value → pm_H → Prop} {e lo hi n ln nr nd nl i a k j ax : Nat} {bs : Nat → Bg} {tx sz lm ll : Nat → Nat} {tm : Nat → Nat → Tm} {dy : Nat → Int} {jk : Option (Nat × Nat)} {g : Bg} {S S' : Int → Int → Prop} {u v : Int} {gr : Int32}
theorem c_rank (n1 : CC B h n bs ln tx nr sz tm nd dy nl lm ll jk) (hQ : ∀ k h', RK bs n (¬ gr = 0) k → CC B h' n bs ln tx nr sz tm nd dy nl lm ll jk → Kp B h h' → Q (some (.int (nI k))) h') :
    PW B X 65 0 [some (.ref B), some (.int gr), none] [] h Q := by
  obtain ⟨rs, rs2, lw, jh, jm, ra, a1⟩ := n1.ob
  obtain ⟨t, g, rb, rt, c1⟩ := n1.2.1
  simp only [u_65_0, u_65_0n, u_65_1, u_65_4, pm_O_some, pm_w_nil, pm_w_i, pm_w_l, pm_w_r, pm_w_n, pm_c_n, pm_c_i, pm_c_l, pm_c_r, pm_c_u, Nat.reduceAdd, Nat.reduceLeDiff, true_and, Option.toList_some, Option.toList_none, List.cons_append, List.nil_append, a1, gf_0_2, pm_io_of c1]
  refine c_dclear c1 (fun hA y1 y2 => ?_)
  have m1 : CC B hA n bs ln tx nr sz tm nd dy nl lm ll jk := by
    refine ⟨n1.1.frm y2 (by omega), ?_⟩
    obtain ⟨_, ⟨lq, lc, gq, gc, h2⟩, ⟨s, U, L, h3⟩, ⟨fb, h4, h5⟩, ⟨s1, U1, L1, h6⟩, ⟨s2, U2, L2, h7⟩, ⟨s3, U3, L3, h8⟩⟩ := n1.2
    obtain ⟨t, g, rb, rt, p1, p2⟩ := y1
    exact ⟨⟨_, _, _, _, p1⟩, ⟨lq, lc, gq, gc, h2.frm y2 (by omega)⟩, ⟨s, U, L, h3.frm y2 (by omega)⟩, ⟨fb, by rw [y2.2.2 _ (by omega)]; exact h4, h5⟩, ⟨s1, U1, L1, h6.frm y2 (by omega)⟩, ⟨s2, U2, L2, h7.frm y2 (by omega)⟩, ⟨s3, U3, L3, h8.frm y2 (by omega)⟩⟩
  have K1 : Kp B h hA := Kp.of y2 (by omega)
  simp only [u_65_7, u_65_7n, u_65_8, u_65_9, pm_O_some, pm_w_nil, pm_w_i, pm_w_l, pm_w_r, pm_w_n, pm_c_n, pm_c_i, pm_c_l, pm_c_r, pm_c_u, Nat.reduceAdd, Nat.reduceLeDiff, true_and, Option.toList_some, Option.toList_none, List.cons_append, List.nil_append, m1.1.cf.io]
  have fin : ∀ hB a b T0 T1 S, axs bs n 0 T0 → axs bs n 1 T1 → (∀ a b, S a b ↔ T0 a b ∨ T1 a b) → rkA bs n 0 a → rkA bs n 1 b → CC B hB n bs ln tx nr sz tm nd dy nl lm ll jk → DfV B hB S → Kp B h hB → PW B X 65 33 [some (.ref B), some (.int gr), none] [.int (nI b), .int (nI a)] hB Q := by
    intro hB a b T0 T1 S s0 s1 s2 r0 r1 o1 o2 o3
    obtain ⟨rs, rs2, lw, jh, jm, ra, a1⟩ := o1.ob
    obtain ⟨t, g, rb, rt, p1, p2, p3⟩ := o2
    obtain ⟨w1, w2⟩ := axs_rk s0 s1 s2
    by_cases z : gr = 0
    · simp only [u_65_33, u_65_34, u_65_35, u_65_36, u_65_37, u_65_40, u_65_40n, u_65_41, u_65_44, u_65_47, u_65_50, u_65_50n, u_65_51, u_65_54, u_65_57, u_65_58, pm_O_some, pm_w_nil, pm_w_i, pm_w_l, pm_w_r, pm_w_n, pm_c_n, pm_c_i, pm_c_l, pm_c_r, pm_c_u, Nat.reduceAdd, Nat.reduceLeDiff, true_and, Option.toList_some, Option.toList_none, List.cons_append, List.nil_append, if_pos z, a1, gf_0_2, p1, gf_1_3, nI_add]
      exact hQ _ hB ⟨a, b, rt, r0, r1, fun c => absurd z c, fun _ => rkT_diff w1 w2 p2.1, rfl⟩ o1 o3
    · simp only [u_65_33, u_65_34, u_65_35, u_65_36, u_65_37, u_65_40, u_65_40n, u_65_41, u_65_44, u_65_47, u_65_50, u_65_50n, u_65_51, u_65_54, u_65_57, u_65_58, pm_O_some, pm_w_nil, pm_w_i, pm_w_l, pm_w_r, pm_w_n, pm_c_n, pm_c_i, pm_c_l, pm_c_r, pm_c_u, Nat.reduceAdd, Nat.reduceLeDiff, true_and, Option.toList_some, Option.toList_none, List.cons_append, List.nil_append, if_neg z, a1, gf_0_2, p1, gf_1_2, nI_add]
      exact hQ _ hB ⟨a, b, rb, r0, r1, fun _ => rkB_diff w1 w2 (dinv_B p2), fun c => absurd z c, rfl⟩ o1 o3
  have second : ∀ hB a T0, axs bs n 0 T0 → rkA bs n 0 a → CC B hB n bs ln tx nr sz tm nd dy nl lm ll jk → DfV B hB T0 → Kp B h hB → PW B X 65 20 [some (.ref B), some (.int gr), none] [.int (nI a)] hB Q := by
    intro hB a T0 s0 r0 o1 o2 o3
    simp only [u_65_20, u_65_20n, u_65_21, u_65_22, pm_O_some, pm_w_nil, pm_w_i, pm_w_l, pm_w_r, pm_w_n, pm_c_n, pm_c_i, pm_c_l, pm_c_r, pm_c_u, Nat.reduceAdd, Nat.reduceLeDiff, true_and, Option.toList_some, Option.toList_none, List.cons_append, List.nil_append, o1.1.cf.io]
    refine c_addD (ax := 1) o1 o2 (by omega) (fun f hC f1 f2 w1 w2 w3 => ?_) (fun f1 hC w1 w2 w3 => ?_)
    · simp only [u_65_25, u_65_28, u_65_29, pm_O_some, pm_w_nil, pm_w_i, pm_w_l, pm_w_r, pm_w_n, pm_c_n, pm_c_i, pm_c_l, pm_c_r, pm_c_u, Nat.reduceAdd, Nat.reduceLeDiff, true_and, Option.toList_some, Option.toList_none, List.cons_append, List.nil_append, i10, if_false]
      exact fin hC a 1 T0 _ _ s0 (Or.inl ⟨f, f1, f2, fun _ _ => Iff.rfl⟩) (fun _ _ => Iff.rfl) r0 (Or.inl ⟨rfl, f, f1, f2⟩) w1 w2 (o3.trans w3)
    · simp only [u_65_25, u_65_28, u_65_29, u_65_32, pm_O_some, pm_w_nil, pm_w_i, pm_w_l, pm_w_r, pm_w_n, pm_c_n, pm_c_i, pm_c_l, pm_c_r, pm_c_u, Nat.reduceAdd, Nat.reduceLeDiff, true_and, Option.toList_some, Option.toList_none, List.cons_append, List.nil_append, i00, if_true]
      exact fin hC a 0 T0 (fun _ _ => False) T0 s0 (Or.inr ⟨f1, fun _ _ c => c⟩) (fun _ _ => ⟨Or.inl, fun c => c.elim id False.elim⟩) r0 (Or.inr ⟨rfl, f1⟩) w1 w2 (o3.trans w3)
  refine c_addD (ax := 0) m1 y1 (by omega) (fun f hC f1 f2 w1 w2 w3 => ?_) (fun f1 hC w1 w2 w3 => ?_)
  · simp only [u_65_12, u_65_15, u_65_16, pm_O_some, pm_w_nil, pm_w_i, pm_w_l, pm_w_r, pm_w_n, pm_c_n, pm_c_i, pm_c_l, pm_c_r, pm_c_u, Nat.reduceAdd, Nat.reduceLeDiff, true_and, Option.toList_some, Option.toList_none, List.cons_append, List.nil_append, i10, if_false]
    exact second hC 1 _ (Or.inl ⟨f, f1, f2, fun _ _ => ⟨fun c => c.elim False.elim id, Or.inr⟩⟩) (Or.inl ⟨rfl, f, f1, f2⟩) w1 w2 (K1.trans w3)
  · simp only [u_65_12, u_65_15, u_65_16, u_65_19, pm_O_some, pm_w_nil, pm_w_i, pm_w_l, pm_w_r, pm_w_n, pm_c_n, pm_c_i, pm_c_l, pm_c_r, pm_c_u, Nat.reduceAdd, Nat.reduceLeDiff, true_and, Option.toList_some, Option.toList_none, List.cons_append, List.nil_append, i00, if_true]
    exact second hC 0 _ (Or.inr ⟨f1, fun _ _ c => c⟩) (Or.inr ⟨rfl, f1⟩) w1 w2 (K1.trans w3)
theorem c_locked (n1 : CC B h n bs ln tx nr sz tm nd dy nl lm ll jk) (hQ : ∀ j k h', RK bs n (¬ (1 : Int32) = 0) j → RK bs n (¬ (0 : Int32) = 0) k → CC B h' n bs ln tx nr sz tm nd dy nl lm ll jk → Kp B h h' → Q (some (.int (if k < j then 1 else 0))) h') :
    PW B X 64 0 [some (.ref B)] [] h Q := by
  simp only [u_64_0, u_64_0n, u_64_1, u_64_2, pm_O_some, pm_w_nil, pm_w_i, pm_w_l, pm_w_r, pm_w_n, pm_c_n, pm_c_i, pm_c_l, pm_c_r, pm_c_u, Nat.reduceAdd, Nat.reduceLeDiff, true_and, Option.toList_some, Option.toList_none, List.cons_append, List.nil_append, n1.1.cf.io]
  refine c_rank n1 (fun j hA r1 m1 m2 => ?_)
  simp only [u_64_5, u_64_5n, u_64_6, u_64_7, pm_O_some, pm_w_nil, pm_w_i, pm_w_l, pm_w_r, pm_w_n, pm_c_n, pm_c_i, pm_c_l, pm_c_r, pm_c_u, Nat.reduceAdd, Nat.reduceLeDiff, true_and, Option.toList_some, Option.toList_none, List.cons_append, List.nil_append, m1.1.cf.io]
  refine c_rank m1 (fun k hB r2 o1 o2 => ?_)
  have l1 := RK_le r1
  have l2 := RK_le r2
  have := hQ j k hB r1 r2 o1 (m2.trans o2)
  by_cases z : k < j
  · rw [if_pos z] at this
    simp only [u_64_10, u_64_13, u_64_14, u_64_17, u_64_18, u_64_18_0, u_64_18_1, pm_O_some, pm_w_nil, pm_w_i, pm_w_l, pm_w_r, pm_w_n, pm_c_n, pm_c_i, pm_c_l, pm_c_r, pm_c_u, Nat.reduceAdd, Nat.reduceLeDiff, true_and, Option.toList_some, Option.toList_none, List.cons_append, List.nil_append, if_neg (nI_ge z (show j < 2 ^ 31 by omega))]
    exact this
  · rw [if_neg z] at this
    simp only [u_64_10, u_64_13, u_64_14, u_64_17, u_64_18, u_64_18_0, u_64_18_1, pm_O_some, pm_w_nil, pm_w_i, pm_w_l, pm_w_r, pm_w_n, pm_c_n, pm_c_i, pm_c_l, pm_c_r, pm_c_u, Nat.reduceAdd, Nat.reduceLeDiff, true_and, Option.toList_some, Option.toList_none, List.cons_append, List.nil_append, if_pos (nI_le (show j ≤ k by omega) (show k < 2 ^ 31 by omega))]
    exact this
end RC

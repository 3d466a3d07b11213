/-! SUMS OF TERMS (TermSum) of the program, as their values. -/
/-- plus P, minus M, product R, the factors F (k of them) -/
def TsV (B : Nat) (h : pm_H) (t P M R : Nat) (F : Nat → Nat) (k : Nat) : Prop := ∃ N f, pm_at B h t = some (.inr (7, [.ref (t + 1), .ref (t + 3), .ref (t + 5), .ref (t + 7), .ref (t + 9), .int (nI k)])) ∧ NatV B h (t + 1) P ∧ NatV B h (t + 3) M ∧ NatV B h (t + 5) R ∧ NatV B h (t + 7) N ∧ pm_at B h (t + 9) = some (.inl (1, 6, .inr (.inl f))) ∧ k ≤ 6 ∧ ∀ i, i < k → f i = lN (F i)
section TS
variable {B : Nat} {X : pm_X} {h h' : pm_H} {Q : Option Value → pm_H → Prop} {t p lo hi P M R k U L : Nat} {F : Nat → Nat} {s : Int32}
theorem TsV.frm (n1 : TsV B h t P M R F k) (f1 : Frm B h h' lo hi) (d : t + 10 ≤ lo ∨ hi ≤ t) : TsV B h' t P M R F k := by
  obtain ⟨N, f, h1, h2, h3, h4, h5, h6, h7⟩ := n1
  exact ⟨N, f, by rw [f1.2.2 _ (by omega)]; exact h1, h2.frm f1 (by omega), h3.frm f1 (by omega), h4.frm f1 (by omega), h5.frm f1 (by omega), by rw [f1.2.2 _ (by omega)]; exact h6, h7⟩
theorem TsV.io (n1 : TsV B h t P M R F k) : pm_io B h t 7 = true := by
  obtain ⟨N, f, h1, r⟩ := n1
  exact pm_io_of h1
theorem c_tclear (n1 : TsV B h t P M R F k) (hQ : ∀ h' G, TsV B h' t 0 0 1 G 0 → Frm B h h' t (t + 10) → Q none h') : PW B X 41 0 [some (.ref t)] [] h Q := by
  obtain ⟨N, f, h1, h2, h3, h4, h5, h6, h7, h8⟩ := n1
  have e0 : (0 : Int64) = lN 0 := rfl
  have e1 : (1 : Int64) = lN 1 := rfl
  simp only [u_41_0, u_41_0n, u_41_1, u_41_4, u_41_5, pm_O_some, pm_w_nil, pm_w_i, pm_w_l, pm_w_r, pm_w_n, pm_c_n, pm_c_i, pm_c_l, pm_c_r, pm_c_u, Nat.reduceAdd, Nat.reduceLeDiff, true_and, Option.toList_some, Option.toList_none, List.cons_append, List.nil_append, h1, gf_7_0, h2.io]
  rw [e0]
  refine c_nput h2 (by decide) (fun ha k1 F1 => ?_)
  have a1 : pm_at B ha t = _ := (F1.2.2 t (by omega)).trans h1
  have a3 := h3.frm F1 (by omega)
  simp only [u_41_8, u_41_8n, u_41_9, u_41_12, u_41_13, pm_O_some, pm_w_nil, pm_w_i, pm_w_l, pm_w_r, pm_w_n, pm_c_n, pm_c_i, pm_c_l, pm_c_r, pm_c_u, Nat.reduceAdd, Nat.reduceLeDiff, true_and, Option.toList_some, Option.toList_none, List.cons_append, List.nil_append, a1, gf_7_1, a3.io]
  rw [e0]
  refine c_nput a3 (by decide) (fun hb k2 F2 => ?_)
  have b1 : pm_at B hb t = _ := (F2.2.2 t (by omega)).trans a1
  have b4 := (h4.frm F1 (by omega)).frm F2 (by omega)
  simp only [u_41_16, u_41_16n, u_41_17, u_41_20, u_41_21, pm_O_some, pm_w_nil, pm_w_i, pm_w_l, pm_w_r, pm_w_n, pm_c_n, pm_c_i, pm_c_l, pm_c_r, pm_c_u, Nat.reduceAdd, Nat.reduceLeDiff, true_and, Option.toList_some, Option.toList_none, List.cons_append, List.nil_append, b1, gf_7_2, b4.io]
  rw [e1]
  refine c_nput b4 (by decide) (fun hc k3 F3 => ?_)
  have c1 : pm_at B hc t = _ := (F3.2.2 t (by omega)).trans b1
  simp only [u_41_24, u_41_24n, u_41_25, u_41_26, u_41_29, pm_O_some, pm_w_nil, pm_w_i, pm_w_l, pm_w_r, pm_w_n, pm_c_n, pm_c_i, pm_c_l, pm_c_r, pm_c_u, Nat.reduceAdd, Nat.reduceLeDiff, true_and, Option.toList_some, Option.toList_none, List.cons_append, List.nil_append, c1, pf_7_5]
  have F4 := Frm.set (e := .inr (7, [.ref (t + 1), .ref (t + 3), .ref (t + 5), .ref (t + 7), .ref (t + 9), .int 0])) c1 rfl
  have c2 := pm_at_self (e := .inr (7, [.ref (t + 1), .ref (t + 3), .ref (t + 5), .ref (t + 7), .ref (t + 9), .int 0])) (pm_v_at c1)
  generalize pm_set B hc t (.inr (7, [.ref (t + 1), .ref (t + 3), .ref (t + 5), .ref (t + 7), .ref (t + 9), .int 0])) = hd at F4 c2 ⊢
  refine hQ hd F ⟨N, f, c2, ((k1.frm F2 (by omega)).frm F3 (by omega)).frm F4 (by omega), (k2.frm F3 (by omega)).frm F4 (by omega), k3.frm F4 (by omega), (((h5.frm F1 (by omega)).frm F2 (by omega)).frm F3 (by omega)).frm F4 (by omega), ?_, by omega, fun i hi => absurd hi (by omega)⟩ ?_
  · rw [F4.2.2 _ (by omega), F3.2.2 _ (by omega), F2.2.2 _ (by omega), F1.2.2 _ (by omega)]; exact h6
  · exact (((F1.mono (by omega) (by omega)).trans (F2.mono (by omega) (by omega))).trans (F3.mono (by omega) (by omega))).trans (F4.mono (by omega) (by omega))
theorem l_ngT {u : Nat} (hu : u < 2 ^ 63) : (-lN u).toInt = -(u : Int) := by
  rw [Int64.toInt_neg, pk_lT hu]
  exact Int.bmod_eq_of_le (by omega) (by omega)
theorem l_ng1 {u : Nat} (hu : u < 2 ^ 63) : ¬ (0 : Int64) < -lN u := by
  rw [Int64.lt_iff_toInt_lt, l_ngT hu]
  simp
theorem l_ng2 {u : Nat} (hu : u < 2 ^ 63) : -lN u ≤ 0 := by
  rw [Int64.le_iff_toInt_le, l_ngT hu]
  simp
theorem l_ng3 {u : Nat} (h0 : 0 < u) (hu : u < 2 ^ 63) : ¬ -lN u = 0 := by
  intro z
  have := l_ngT hu
  rw [z] at this
  simp at this
  omega
theorem l_ne0 {u : Nat} (h0 : 0 < u) (hu : u < 2 ^ 63) : ¬ lN u = 0 := fun z => by have := (pk_lEQ hu (by decide : 0 < 2 ^ 63)).mp z; omega
theorem l_gt0 {u : Nat} (h0 : 0 < u) (hu : u < 2 ^ 63) : (0 : Int64) < lN u := (pk_lLT (by decide : 0 < 2 ^ 63) hu).mpr h0
theorem l_nle0 {u : Nat} (h0 : 0 < u) (hu : u < 2 ^ 63) : ¬ lN u ≤ 0 := fun z => by have := (l_le0 hu).mp z; omega
/-- a signed term: ng says that it is below 0 -/
def sgl (ng : Bool) (u : Nat) : Int64 := if ng then -lN u else lN u
theorem c_tadd0 {l : Nat} (n1 : TsV B h t P M R F k) : PW B X 43 0 [some (.ref t), some (.long 0), none, some (.long (lN l)), none] [] h Q ↔ Q none h := by
  simp only [u_43_0, u_43_1, u_43_2, u_43_3, u_43_6, u_43_7, u_43_8, u_43_9, u_43_12, u_43_12n, u_43_13, u_43_16, u_43_18, u_43_21, pm_O_some, pm_w_nil, pm_w_i, pm_w_l, pm_w_r, pm_w_n, pm_c_n, pm_c_i, pm_c_l, pm_c_r, pm_c_u, Nat.reduceAdd, Nat.reduceLeDiff, true_and, Option.toList_some, Option.toList_none, List.cons_append, List.nil_append, lg_cmp_eq, if_true]
set_option maxHeartbeats 1000000 in
theorem c_tadd {ng : Bool} {u l : Nat} (n1 : TsV B h t P M R F k) (hk : k < 6) (hu0 : 0 < u) (hu : u < 1000000000) (hl0 : 0 < l) (hl : l < 1000000000) (bP : P < 1000000000 ^ 6) (bM : M < 1000000000 ^ 6) (bR : R < 1000000000 ^ 6)
    (hQ : ∀ h', TsV B h' t (P * l + (if ng then 0 else R * u)) (M * l + (if ng then R * u else 0)) (R * l) (fun i => if i = k then l else F i) (k + 1) → Frm B h h' t (t + 10) → Q none h') :
    PW B X 43 0 [some (.ref t), some (.long (sgl ng u)), none, some (.long (lN l)), none] [] h Q := by
  obtain ⟨N, f, h1, h2, h3, h4, h5, h6, h7, h8⟩ := n1
  have e1 : ¬ sgl ng u = 0 := by
    cases ng
    · exact l_ne0 hu0 (by omega)
    · exact l_ng3 hu0 (by omega)
  have e2 : ¬ lN l ≤ 0 := l_nle0 hl0 (by omega)
  have e3 : nI k < 6 := nI_lt (b := 6) hk (by decide)
  have e4 : (if 0 < sgl ng u then sgl ng u else -sgl ng u) = lN u := by
    cases ng
    · exact if_pos (l_gt0 hu0 (by omega))
    · show (if 0 < -lN u then -lN u else - -lN u) = lN u
      rw [if_neg (l_ng1 (by omega)), Int64.neg_neg]
  have q1 : P * l < 1000000000 ^ 6 * 1000000000 := Nat.mul_lt_mul'' bP hl
  have q2 : M * l < 1000000000 ^ 6 * 1000000000 := Nat.mul_lt_mul'' bM hl
  have q3 : R * l < 1000000000 ^ 6 * 1000000000 := Nat.mul_lt_mul'' bR hl
  have q4 : R * u < 1000000000 ^ 6 * 1000000000 := Nat.mul_lt_mul'' bR hu
  simp only [u_43_0, u_43_1, u_43_2, u_43_3, u_43_6, u_43_7, u_43_8, u_43_9, u_43_12, u_43_12n, u_43_13, u_43_16, u_43_18, u_43_21, u_43_22, u_43_22n, u_43_23, u_43_26, u_43_27, pm_O_some, pm_w_nil, pm_w_i, pm_w_l, pm_w_r, pm_w_n, pm_c_n, pm_c_i, pm_c_l, pm_c_r, pm_c_u, Nat.reduceAdd, Nat.reduceLeDiff, true_and, Option.toList_some, Option.toList_none, List.cons_append, List.nil_append, lg_cmp_eq, lg_cmp_le, e1, e2, e3, if_false, if_true, h1, gf_7_5, gf_7_0, h2.io]
  refine c_nmul h2 hl (by omega) (fun ha k1 F1 => ?_)
  have a1 : pm_at B ha t = _ := (F1.2.2 t (by omega)).trans h1
  have a3 := h3.frm F1 (by omega)
  simp only [u_43_30, u_43_30n, u_43_31, u_43_34, u_43_35, pm_O_some, pm_w_nil, pm_w_i, pm_w_l, pm_w_r, pm_w_n, pm_c_n, pm_c_i, pm_c_l, pm_c_r, pm_c_u, Nat.reduceAdd, Nat.reduceLeDiff, true_and, Option.toList_some, Option.toList_none, List.cons_append, List.nil_append, a1, gf_7_1, a3.io]
  refine c_nmul a3 hl (by omega) (fun hb k2 F2 => ?_)
  have b1 : pm_at B hb t = _ := (F2.2.2 t (by omega)).trans a1
  have b4 := (h4.frm F1 (by omega)).frm F2 (by omega)
  have b5 := (h5.frm F1 (by omega)).frm F2 (by omega)
  simp only [u_43_38, u_43_38n, u_43_39, u_43_42, u_43_42n, u_43_43, u_43_46, pm_O_some, pm_w_nil, pm_w_i, pm_w_l, pm_w_r, pm_w_n, pm_c_n, pm_c_i, pm_c_l, pm_c_r, pm_c_u, Nat.reduceAdd, Nat.reduceLeDiff, true_and, Option.toList_some, Option.toList_none, List.cons_append, List.nil_append, b1, gf_7_3, gf_7_2, b5.io]
  refine c_ncopy b5 b4 (by omega) (fun hc k3 F3 => ?_)
  have c1 : pm_at B hc t = _ := (F3.2.2 t (by omega)).trans b1
  simp only [u_43_49, u_43_49n, u_43_50, u_43_53, u_43_54, u_43_57, pm_O_some, pm_w_nil, pm_w_i, pm_w_l, pm_w_r, pm_w_n, pm_c_n, pm_c_i, pm_c_l, pm_c_r, pm_c_u, Nat.reduceAdd, Nat.reduceLeDiff, true_and, Option.toList_some, Option.toList_none, List.cons_append, List.nil_append, c1, gf_7_3, k3.io, e4]
  refine c_nmul k3 hu (by omega) (fun hd k4 F4 => ?_)
  have d1 : pm_at B hd t = _ := (F4.2.2 t (by omega)).trans c1
  have d2 := (k1.frm F2 (by omega)).frm F3 (by omega) |>.frm F4 (by omega)
  have d3 := (k2.frm F3 (by omega)).frm F4 (by omega)
  have d4 := (b4.frm F3 (by omega)).frm F4 (by omega)
  have d6 : pm_at B hd (t + 9) = _ := ((F4.2.2 _ (by omega)).trans ((F3.2.2 _ (by omega)).trans ((F2.2.2 _ (by omega)).trans (F1.2.2 _ (by omega))))).trans h6
  have FA : Frm B h hd t (t + 10) := (((F1.mono (by omega) (by omega)).trans (F2.mono (by omega) (by omega))).trans (F3.mono (by omega) (by omega))).trans (F4.mono (by omega) (by omega))
  -- behind the branch
  have fin : ∀ he P' M', pm_at B he t = some (.inr (7, [.ref (t + 1), .ref (t + 3), .ref (t + 5), .ref (t + 7), .ref (t + 9), .int (nI k)])) → NatV B he (t + 1) P' → NatV B he (t + 3) M' → NatV B he (t + 5) R → NatV B he (t + 7) (R * u) → pm_at B he (t + 9) = some (.inl (1, 6, .inr (.inl f))) → Frm B h he t (t + 10) →
      P' = P * l + (if ng then 0 else R * u) → M' = M * l + (if ng then R * u else 0) → PW B X 43 91 [some (.ref t), some (.long (sgl ng u)), none, some (.long (lN l)), none] [] he Q := by
    intro he P' M' x1 x2 x3 x4 x5 x6 FB hP hM
    subst hP; subst hM
    simp only [u_43_91, u_43_91n, u_43_92, u_43_95, u_43_96, pm_O_some, pm_w_nil, pm_w_i, pm_w_l, pm_w_r, pm_w_n, pm_c_n, pm_c_i, pm_c_l, pm_c_r, pm_c_u, Nat.reduceAdd, Nat.reduceLeDiff, true_and, Option.toList_some, Option.toList_none, List.cons_append, List.nil_append, x1, gf_7_2, x4.io]
    refine c_nmul x4 hl (by omega) (fun hf k6 F6 => ?_)
    have y1 : pm_at B hf t = _ := (F6.2.2 t (by omega)).trans x1
    have y6 : pm_at B hf (t + 9) = _ := (F6.2.2 _ (by omega)).trans x6
    simp only [u_43_99, u_43_99n, u_43_100, u_43_103, u_43_103n, u_43_104, u_43_107, u_43_108, pm_O_some, pm_w_nil, pm_w_i, pm_w_l, pm_w_r, pm_w_n, pm_c_n, pm_c_i, pm_c_l, pm_c_r, pm_c_u, Nat.reduceAdd, Nat.reduceLeDiff, true_and, Option.toList_some, Option.toList_none, List.cons_append, List.nil_append, y1, gf_7_4, gf_7_5, y6, st_l (pm_ix_of (show k < 6 by omega) (by decide)), nI_clamp (show k < 2 ^ 31 by omega)]
    have F7 := Frm.set (e := .inl (1, 6, .inr (.inl (vp_updL f k (lN l))))) y6 rfl
    have y7 := pm_at_self (e := .inl (1, 6, .inr (.inl (vp_updL f k (lN l))))) (pm_v_at y6)
    generalize pm_set B hf (t + 9) (.inl (1, 6, .inr (.inl (vp_updL f k (lN l))))) = hg at F7 y7 ⊢
    have z1 : pm_at B hg t = _ := (F7.2.2 t (by omega)).trans y1
    simp only [u_43_109, u_43_109n, u_43_110, u_43_110i, u_43_111, u_43_114, u_43_115, u_43_116, u_43_119, pm_O_some, pm_w_nil, pm_w_i, pm_w_l, pm_w_r, pm_w_n, pm_c_n, pm_c_i, pm_c_l, pm_c_r, pm_c_u, Nat.reduceAdd, Nat.reduceLeDiff, true_and, Option.toList_some, Option.toList_none, List.cons_append, List.nil_append, z1, gf_7_5, pf_7_5, nI_1]
    have F8 := Frm.set (e := .inr (7, [.ref (t + 1), .ref (t + 3), .ref (t + 5), .ref (t + 7), .ref (t + 9), .int (nI (k + 1))])) z1 rfl
    have z2 := pm_at_self (e := .inr (7, [.ref (t + 1), .ref (t + 3), .ref (t + 5), .ref (t + 7), .ref (t + 9), .int (nI (k + 1))])) (pm_v_at z1)
    generalize pm_set B hg t (.inr (7, [.ref (t + 1), .ref (t + 3), .ref (t + 5), .ref (t + 7), .ref (t + 9), .int (nI (k + 1))])) = hi' at F8 z2 ⊢
    refine hQ hi' ⟨_, _, z2, ((x2.frm F6 (by omega)).frm F7 (by omega)).frm F8 (by omega), ((x3.frm F6 (by omega)).frm F7 (by omega)).frm F8 (by omega), (k6.frm F7 (by omega)).frm F8 (by omega), ((x5.frm F6 (by omega)).frm F7 (by omega)).frm F8 (by omega), (F8.2.2 _ (by omega)).trans y7, by omega, fun i hi => ?_⟩ ?_
    · by_cases hik : i = k
      · subst hik; rw [pk_uLs]; simp
      · rw [pk_uLn hik, h8 i (by omega)]; simp [hik]
    · exact ((FB.trans (F6.mono (by omega) (by omega))).trans (F7.mono (by omega) (by omega))).trans (F8.mono (by omega) (by omega))
  cases ng with
  | false =>
    have e5 : ¬ sgl false u ≤ 0 := l_nle0 hu0 (by omega)
    simp only [u_43_60, u_43_61, u_43_62, u_43_63, u_43_66, u_43_66n, u_43_67, u_43_70, u_43_70n, u_43_71, u_43_74, pm_O_some, pm_w_nil, pm_w_i, pm_w_l, pm_w_r, pm_w_n, pm_c_n, pm_c_i, pm_c_l, pm_c_r, pm_c_u, Nat.reduceAdd, Nat.reduceLeDiff, true_and, Option.toList_some, Option.toList_none, List.cons_append, List.nil_append, lg_cmp_le, if_neg e5, d1, gf_7_0, gf_7_3, d2.io]
    refine c_nadd d2 k4 (by omega) (by omega) (fun he k5 F5 => ?_)
    simp only [u_43_77, pm_O_some, pm_w_nil, pm_w_i, pm_w_l, pm_w_r, pm_w_n, pm_c_n, pm_c_i, pm_c_l, pm_c_r, pm_c_u, Nat.reduceAdd, Nat.reduceLeDiff, true_and, Option.toList_some, Option.toList_none, List.cons_append, List.nil_append]
    exact fin he _ _ ((F5.2.2 t (by omega)).trans d1) k5 (d3.frm F5 (by omega)) (d4.frm F5 (by omega)) (k4.frm F5 (by omega)) ((F5.2.2 _ (by omega)).trans d6) (FA.trans (F5.mono (by omega) (by omega))) (by simp) (by simp)
  | true =>
    have e5 : sgl true u ≤ 0 := l_ng2 (by omega)
    simp only [u_43_60, u_43_61, u_43_62, u_43_63, u_43_80, u_43_80n, u_43_81, u_43_84, u_43_84n, u_43_85, u_43_88, pm_O_some, pm_w_nil, pm_w_i, pm_w_l, pm_w_r, pm_w_n, pm_c_n, pm_c_i, pm_c_l, pm_c_r, pm_c_u, Nat.reduceAdd, Nat.reduceLeDiff, true_and, Option.toList_some, Option.toList_none, List.cons_append, List.nil_append, lg_cmp_le, if_pos e5, d1, gf_7_1, gf_7_3, d3.io]
    refine c_nadd d3 k4 (by omega) (by omega) (fun he k5 F5 => ?_)
    exact fin he _ _ ((F5.2.2 t (by omega)).trans d1) (d2.frm F5 (by omega)) k5 (d4.frm F5 (by omega)) (k4.frm F5 (by omega)) ((F5.2.2 _ (by omega)).trans d6) (FA.trans (F5.mono (by omega) (by omega))) (by simp) (by simp)
end TS

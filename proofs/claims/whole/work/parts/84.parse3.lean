/-! readTerm, readRule, readInto. -/
/-- changed are the reader's cell and the rule set at r alone -/
def Fr2 (B : Nat) (h h' : pm_H) (r : Nat) : Prop := h'.length = h.length ∧ pm_sl h' = pm_sl h ∧ ∀ q, ¬ q = B + 3 → ¬ (r ≤ q ∧ q < r + 6) → pm_at B h' q = pm_at B h q
/-- a rule from p on, its s-th term next: the wrong place, or the place behind it, sizes and terms -/
def rul (tx : Nat → Nat) (ln : Nat) : Nat → Nat → Nat → Nat → (Nat → Nat) → (Nat → Nat → Tm) → Nat ⊕ (Nat × (Nat → Nat) × (Nat → Nat → Tm))
  | 0, _, _, p, _, _ => .inl p
  | f + 1, r, s, p, sz, tm => if s = 6 then .inl p else match trm tx ln p with
    | .inl w => .inl w
    | .inr (T, q) => if sk tx ln q < ln ∧ ¬ tx (sk tx ln q) = 59 then rul tx ln f r (s + 1) (sk tx ln q) (ups sz r (s + 1)) (ups tm r (ups (tm r) s T)) else .inr (sk tx ln q, ups sz r (s + 1), ups tm r (ups (tm r) s T))
/-- rules from p on, r of them read -/
def prs (tx : Nat → Nat) (ln : Nat) : Nat → Nat → Nat → (Nat → Nat) → (Nat → Nat → Tm) → Nat ⊕ (Nat × (Nat → Nat) × (Nat → Nat → Tm))
  | 0, _, p, _, _ => .inl (sk tx ln p)
  | f + 1, r, p, sz, tm => if r = 8 then .inl (sk tx ln p) else match rul tx ln 7 r 0 (sk tx ln p) (ups sz r 0) tm with
    | .inl w => .inl w
    | .inr (q, sz', tm') => if lk tx ln q = 59 then prs tx ln f (r + 1) (q + 1) sz' tm' else .inr (r + 1, sz', tm')
def prs0 (tx : Nat → Nat) (ln : Nat) : Nat ⊕ (Nat × (Nat → Nat) × (Nat → Nat → Tm)) := prs tx ln 9 0 0 (fun _ => 0) (fun _ _ => (0, 0, 0, 0))
section PE
variable {B : Nat} {X : pm_X} {h h' h2 : pm_H} {Q : Option Value → pm_H → Prop} {lo hi ln p c r nr k s : Nat} {tx sz : Nat → Nat} {tm : Nat → Nat → Tm} {T : Tm}
theorem Fr2.rfl' : Fr2 B h h r := ⟨rfl, rfl, fun _ _ _ => rfl⟩
theorem Fr2.trans (f1 : Fr2 B h h' r) (f2 : Fr2 B h' h2 r) : Fr2 B h h2 r := ⟨f2.1.trans f1.1, f2.2.1.trans f1.2.1, fun q a b => (f2.2.2 q a b).trans (f1.2.2 q a b)⟩
theorem Fr2.r3 (f1 : Frm B h h' (B + 3) (B + 4)) : Fr2 B h h' r := ⟨f1.1, f1.2.1, fun q a b => f1.2.2 q (by omega)⟩
theorem Fr2.rr (f1 : Frm B h h' r (r + 6)) : Fr2 B h h' r := ⟨f1.1, f1.2.1, fun q a b => f1.2.2 q (by omega)⟩
theorem RsP.x (n1 : RsP B h r nr sz tm) : RsX B h r := by
  obtain ⟨fc, fu, fl, fk, fs, h1, h2⟩ := n1
  exact ⟨fc, fu, fl, fk, fs, _, _, h1⟩
theorem RdP.b (n1 : RdP B h ln tx p) : ln ≤ 200 ∧ p ≤ ln ∧ ∀ i, i < ln → 32 ≤ tx i ∧ tx i ≤ 126 := by
  obtain ⟨h1, h2, fT, h3, h4, h5⟩ := n1
  exact ⟨h1, h2, fun i hi => (h5 i hi).2⟩
set_option maxHeartbeats 1000000 in
theorem c_term (n1 : RdP B h ln tx p) (n2 : RsP B h r (k + 1) sz tm) (hs : sz k < 6) (dr : B + 5 ≤ r)
    (ht : ∀ T q h', trm tx ln p = .inr (T, q) → RdP B h' ln tx q → RsP B h' r (k + 1) (ups sz k (sz k + 1)) (ups tm k (ups (tm k) (sz k) T)) → Fr2 B h h' r → Q (some (.int 1)) h')
    (hf : ∀ w h', trm tx ln p = .inl w → RdP B h' ln tx w → RsX B h' r → Fr2 B h h' r → Q (some (.int 0)) h') :
    PW B X 27 0 [some (.ref (B + 3)), some (.ref r), none, none, none, none] [] h Q := by
  obtain ⟨hln, hp, htx⟩ := n1.b
  have lst : ∀ hA u l q v5, (lk tx ln p = 43 ∨ lk tx ln p = 45 ∨ lk tx ln p = 42) → (1 ≤ u ∧ u ≤ 999) → (1 ≤ l ∧ l ≤ 999) → trm tx ln p = tml tx ln (lk tx ln p) u l q → RdP B hA ln tx q → Frm B h hA (B + 3) (B + 4) →
      PW B X 27 70 [some (.ref (B + 3)), some (.ref r), some (.int (nI (lk tx ln p))), some (.int (nI u)), some (.int (nI l)), v5] [] hA Q := by
    intro hA u l q v5 hc hu hl he m1 m2
    have o2 := n2.frm m2 (by omega)
    have e1 : ¬ nI u = 0 := nI_ne0 (by omega) (by omega)
    have e2 : ¬ nI l = 0 := nI_ne0 (by omega) (by omega)
    have hb := lk_b (p := q) htx
    simp only [u_27_70, u_27_71, u_27_74, u_27_76, u_27_79, u_27_80, u_27_80_0, u_27_80_1, u_27_81, u_27_81n, u_27_82, u_27_85, u_27_87, u_27_89, u_27_91, u_27_93, pm_O_some, pm_w_nil, pm_w_i, pm_w_l, pm_w_r, pm_w_n, pm_c_n, pm_c_i, pm_c_l, pm_c_r, pm_c_u, Nat.reduceAdd, Nat.reduceLeDiff, true_and, Option.toList_some, Option.toList_none, List.cons_append, List.nil_append, if_neg e1, e2, not_false_eq_true, if_true, m1.io, s_here m1, s_within]
    unfold tml at he
    by_cases z : 97 ≤ lk tx ln q ∧ lk tx ln q ≤ 104
    · rw [if_pos z] at he
      have hq : q < ln := by
        unfold lk at z
        split at z
        · assumption
        · omega
      obtain ⟨b1, b2, fT, b3, b4, b5⟩ := id m1
      obtain ⟨w1, w2⟩ := m1.put (q := q + 1) (by omega)
      simp only [u_27_96, u_27_99, u_27_100, u_27_100_0, u_27_100_1, u_27_101, u_27_101n, u_27_102, u_27_102i, u_27_103, u_27_106, u_27_107, u_27_108, pm_O_some, pm_w_nil, pm_w_i, pm_w_l, pm_w_r, pm_w_n, pm_c_n, pm_c_i, pm_c_l, pm_c_r, pm_c_u, Nat.reduceAdd, Nat.reduceLeDiff, true_and, Option.toList_some, Option.toList_none, List.cons_append, List.nil_append, if_pos ((w_let hb).mpr z), i10, not_false_eq_true, if_true, b3, gf_2_2, pf_2_2, nI_1]
      have o3 := o2.frm w2 (by omega)
      simp only [u_27_111, u_27_111n, u_27_112, u_27_113, u_27_114, u_27_116, u_27_118, u_27_120, u_27_121, pm_O_some, pm_w_nil, pm_w_i, pm_w_l, pm_w_r, pm_w_n, pm_c_n, pm_c_i, pm_c_l, pm_c_r, pm_c_u, Nat.reduceAdd, Nat.reduceLeDiff, true_and, Option.toList_some, Option.toList_none, List.cons_append, List.nil_append, nI_m97 z.1, o3.io]
      refine c_addT o3 hs ⟨?_, hu, hl, ?_⟩ (fun hB y1 y2 => ?_)
      · show lk tx ln p = 42 ∨ lk tx ln p = 43 ∨ lk tx ln p = 45
        omega
      · show lk tx ln q - 97 < 8
        omega
      · simp only [u_27_124, u_27_125, u_27_125_0, u_27_125_1, pm_O_some, pm_w_nil, pm_w_i, pm_w_l, pm_w_r, pm_w_n, pm_c_n, pm_c_i, pm_c_l, pm_c_r, pm_c_u, Nat.reduceAdd, Nat.reduceLeDiff, true_and, Option.toList_some, Option.toList_none, List.cons_append, List.nil_append]
        exact ht _ _ hB he (w1.frm y2 (by omega)) y1 ((Fr2.r3 (m2.trans w2)).trans (Fr2.rr y2))
    · rw [if_neg z] at he
      simp only [u_27_96, u_27_99, u_27_100, u_27_100_0, u_27_100_1, pm_O_some, pm_w_nil, pm_w_i, pm_w_l, pm_w_r, pm_w_n, pm_c_n, pm_c_i, pm_c_l, pm_c_r, pm_c_u, Nat.reduceAdd, Nat.reduceLeDiff, true_and, Option.toList_some, Option.toList_none, List.cons_append, List.nil_append, if_neg (mt (w_let hb).mp z), i00, not_true, if_false]
      exact hf q hA he m1 o2.x (Fr2.r3 m2)
  have mid : (lk tx ln p = 43 ∨ lk tx ln p = 45 ∨ lk tx ln p = 42) → ∀ hA, RdP B hA ln tx (sk tx ln (p + 1)) → Frm B h hA (B + 3) (B + 4) →
      PW B X 27 34 [some (.ref (B + 3)), some (.ref r), some (.int (nI (lk tx ln p))), none, none, none] [] hA Q := by
    intro hc hA m1 m2
    obtain ⟨_, hq1, _⟩ := m1.b
    have o2 := n2.frm m2 (by omega)
    have E : trm tx ln p = _ := if_pos hc
    generalize hp1 : sk tx ln (p + 1) = p1 at m1 hq1 E
    have one : nI 1 = 1 := rfl
    by_cases z : 48 ≤ lk tx ln p1 ∧ lk tx ln p1 ≤ 57
    · rw [if_pos z] at E
      simp only [u_27_34, u_27_35, u_27_36, u_27_37, u_27_39, u_27_39n, u_27_40, u_27_43, u_27_46, u_27_46n, u_27_47, pm_O_some, pm_w_nil, pm_w_i, pm_w_l, pm_w_r, pm_w_n, pm_c_n, pm_c_i, pm_c_l, pm_c_r, pm_c_u, Nat.reduceAdd, Nat.reduceLeDiff, true_and, Option.toList_some, Option.toList_none, List.cons_append, List.nil_append, m1.io, s_digit m1, if_pos z, i10, if_false]
      refine c_number m1 (fun hnok hB y1 y2 => ?_) (fun hnok => ?_)
      · rw [if_pos hnok] at E
        obtain ⟨v1, v2⟩ := nok_vl hq1 hnok
        have e1 : ¬ nI (vl tx p1 (de tx ln p1 - p1)) = 0 := nI_ne0 (by omega) (by omega)
        generalize vl tx p1 (de tx ln p1 - p1) = u at E v1 v2 e1
        obtain ⟨_, hq2, _⟩ := y1.b
        generalize hp2 : sk tx ln (de tx ln p1) = p2 at y1 hq2 E
        simp only [u_27_50, u_27_51, u_27_52, u_27_55, u_27_55n, u_27_56, u_27_58, pm_O_some, pm_w_nil, pm_w_i, pm_w_l, pm_w_r, pm_w_n, pm_c_n, pm_c_i, pm_c_l, pm_c_r, pm_c_u, Nat.reduceAdd, Nat.reduceLeDiff, true_and, Option.toList_some, Option.toList_none, List.cons_append, List.nil_append, e1, if_false, y1.io]
        refine c_take (c := 47) y1 (by omega) (by omega) (fun hsl hC z1 z2 => ?_) (fun hsl => ?_)
        · rw [if_pos hsl] at E
          obtain ⟨_, hq3, _⟩ := z1.b
          generalize hp3 : sk tx ln (p2 + 1) = p3 at z1 hq3 E
          simp only [u_27_61, u_27_64, u_27_64n, u_27_65, pm_O_some, pm_w_nil, pm_w_i, pm_w_l, pm_w_r, pm_w_n, pm_c_n, pm_c_i, pm_c_l, pm_c_r, pm_c_u, Nat.reduceAdd, Nat.reduceLeDiff, true_and, Option.toList_some, Option.toList_none, List.cons_append, List.nil_append, i10, if_false, z1.io]
          refine c_number z1 (fun hnok2 hD x1 x2 => ?_) (fun hnok2 => ?_)
          · rw [if_pos hnok2] at E
            simp only [u_27_68, pm_O_some, pm_w_nil, pm_w_i, pm_w_l, pm_w_r, pm_w_n, pm_c_n, pm_c_i, pm_c_l, pm_c_r, pm_c_u, Nat.reduceAdd, Nat.reduceLeDiff, true_and, Option.toList_some, Option.toList_none, List.cons_append, List.nil_append]
            exact lst hD u _ _ _ hc ⟨v1, v2⟩ (nok_vl hq3 hnok2) E x1 (((m2.trans y2).trans z2).trans x2)
          · rw [if_neg hnok2] at E
            simp only [u_27_68, u_27_70, u_27_71, u_27_74, u_27_76, u_27_79, u_27_80, u_27_80_0, u_27_80_1, pm_O_some, pm_w_nil, pm_w_i, pm_w_l, pm_w_r, pm_w_n, pm_c_n, pm_c_i, pm_c_l, pm_c_r, pm_c_u, Nat.reduceAdd, Nat.reduceLeDiff, true_and, Option.toList_some, Option.toList_none, List.cons_append, List.nil_append, if_neg e1, i00, not_true, if_false]
            exact hf p3 hC E z1 ((n2.frm ((m2.trans y2).trans z2) (by omega)).x) (Fr2.r3 ((m2.trans y2).trans z2))
        · rw [if_neg hsl] at E
          simp only [u_27_61, pm_O_some, pm_w_nil, pm_w_i, pm_w_l, pm_w_r, pm_w_n, pm_c_n, pm_c_i, pm_c_l, pm_c_r, pm_c_u, Nat.reduceAdd, Nat.reduceLeDiff, true_and, Option.toList_some, Option.toList_none, List.cons_append, List.nil_append, i00, if_true]
          exact lst hB u 1 _ _ hc ⟨v1, v2⟩ (by omega) E y1 (m2.trans y2)
      · rw [if_neg hnok] at E
        simp only [u_27_50, u_27_51, u_27_52, u_27_70, u_27_71, u_27_74, u_27_76, u_27_79, u_27_80, u_27_80_0, u_27_80_1, pm_O_some, pm_w_nil, pm_w_i, pm_w_l, pm_w_r, pm_w_n, pm_c_n, pm_c_i, pm_c_l, pm_c_r, pm_c_u, Nat.reduceAdd, Nat.reduceLeDiff, true_and, Option.toList_some, Option.toList_none, List.cons_append, List.nil_append, i00, if_true]
        exact hf p1 hA E m1 o2.x (Fr2.r3 m2)
    · rw [if_neg z] at E
      simp only [u_27_34, u_27_35, u_27_36, u_27_37, u_27_39, u_27_39n, u_27_40, u_27_43, pm_O_some, pm_w_nil, pm_w_i, pm_w_l, pm_w_r, pm_w_n, pm_c_n, pm_c_i, pm_c_l, pm_c_r, pm_c_u, Nat.reduceAdd, Nat.reduceLeDiff, true_and, Option.toList_some, Option.toList_none, List.cons_append, List.nil_append, m1.io, s_digit m1, if_neg z, i00, if_true]
      exact lst hA 1 1 _ _ hc (by omega) (by omega) E m1 m2
  simp only [u_27_0, u_27_0n, u_27_1, u_27_4, u_27_5, u_27_5n, u_27_6, u_27_8, pm_O_some, pm_w_nil, pm_w_i, pm_w_l, pm_w_r, pm_w_n, pm_c_n, pm_c_i, pm_c_l, pm_c_r, pm_c_u, Nat.reduceAdd, Nat.reduceLeDiff, true_and, Option.toList_some, Option.toList_none, List.cons_append, List.nil_append, n1.io, s_here n1]
  refine c_take (c := 43) n1 (by omega) (by omega) (fun hz hA y1 y2 => ?_) (fun hz => ?_)
  · simp only [u_27_11, pm_O_some, pm_w_nil, pm_w_i, pm_w_l, pm_w_r, pm_w_n, pm_c_n, pm_c_i, pm_c_l, pm_c_r, pm_c_u, Nat.reduceAdd, Nat.reduceLeDiff, true_and, Option.toList_some, Option.toList_none, List.cons_append, List.nil_append, i10, not_false_eq_true, if_true]
    exact mid (by omega) hA y1 y2
  · simp only [u_27_11, u_27_14, u_27_14n, u_27_15, u_27_17, pm_O_some, pm_w_nil, pm_w_i, pm_w_l, pm_w_r, pm_w_n, pm_c_n, pm_c_i, pm_c_l, pm_c_r, pm_c_u, Nat.reduceAdd, Nat.reduceLeDiff, true_and, Option.toList_some, Option.toList_none, List.cons_append, List.nil_append, i00, not_true, if_false, n1.io]
    refine c_take (c := 45) n1 (by omega) (by omega) (fun hz2 hA y1 y2 => ?_) (fun hz2 => ?_)
    · simp only [u_27_20, pm_O_some, pm_w_nil, pm_w_i, pm_w_l, pm_w_r, pm_w_n, pm_c_n, pm_c_i, pm_c_l, pm_c_r, pm_c_u, Nat.reduceAdd, Nat.reduceLeDiff, true_and, Option.toList_some, Option.toList_none, List.cons_append, List.nil_append, i10, not_false_eq_true, if_true]
      exact mid (by omega) hA y1 y2
    · simp only [u_27_20, u_27_23, u_27_23n, u_27_24, u_27_26, pm_O_some, pm_w_nil, pm_w_i, pm_w_l, pm_w_r, pm_w_n, pm_c_n, pm_c_i, pm_c_l, pm_c_r, pm_c_u, Nat.reduceAdd, Nat.reduceLeDiff, true_and, Option.toList_some, Option.toList_none, List.cons_append, List.nil_append, i00, not_true, if_false, n1.io]
      refine c_take (c := 42) n1 (by omega) (by omega) (fun hz3 hA y1 y2 => ?_) (fun hz3 => ?_)
      · simp only [u_27_29, pm_O_some, pm_w_nil, pm_w_i, pm_w_l, pm_w_r, pm_w_n, pm_c_n, pm_c_i, pm_c_l, pm_c_r, pm_c_u, Nat.reduceAdd, Nat.reduceLeDiff, true_and, Option.toList_some, Option.toList_none, List.cons_append, List.nil_append, i10, not_false_eq_true, if_true]
        exact mid (by omega) hA y1 y2
      · simp only [u_27_29, u_27_32, u_27_33, u_27_33_0, u_27_33_1, pm_O_some, pm_w_nil, pm_w_i, pm_w_l, pm_w_r, pm_w_n, pm_c_n, pm_c_i, pm_c_l, pm_c_r, pm_c_u, Nat.reduceAdd, Nat.reduceLeDiff, true_and, Option.toList_some, Option.toList_none, List.cons_append, List.nil_append, i00, not_true, if_false]
        exact hf p h (if_neg (by omega)) n1 n2.x Fr2.rfl'
theorem c_rule (n1 : RdP B h ln tx p) (n2 : RsP B h r (k + 1) sz tm) (hs : sz k = 0) (dr : B + 5 ≤ r)
    (ht : ∀ q sz' tm' h', rul tx ln 7 k 0 p sz tm = .inr (q, sz', tm') → 1 ≤ sz' k → (∀ j, j < k → sz' j = sz j) → RdP B h' ln tx q → RsP B h' r (k + 1) sz' tm' → Fr2 B h h' r → Q (some (.int 1)) h')
    (hf : ∀ w h', rul tx ln 7 k 0 p sz tm = .inl w → RdP B h' ln tx w → RsX B h' r → Fr2 B h h' r → Q (some (.int 0)) h') :
    PW B X 25 0 [some (.ref (B + 3)), some (.ref r), none, none] [] h Q := by
  have loop : ∀ f s p1 sz1 tm1 hc, s + f = 7 → rul tx ln f k s p1 sz1 tm1 = rul tx ln 7 k 0 p sz tm → sz1 k = s → (∀ j, j < k → sz1 j = sz j) → RdP B hc ln tx p1 → RsP B hc r (k + 1) sz1 tm1 → Fr2 B h hc r → PW B X 25 4 [some (.ref (B + 3)), some (.ref r), some (.int 1), some (.int (nI s))] [] hc Q := by
    intro f
    induction f with
    | zero =>
      intro s p1 sz1 tm1 hc hsf he hsz hoth m1 m2 m3
      obtain ⟨fc, fu, fl, fk, fs, g1, g2, g3⟩ := m2
      have := (g3 k (by omega)).2.1
      omega
    | succ f ih =>
      intro s p1 sz1 tm1 hc hsf he hsz hoth m1 m2 m3
      rw [rul] at he
      have e1 : ¬ (6 : Int32) < nI s := nI_nlt (b := s) (a := 6) (by omega) (by decide)
      rw [u_25_4]
      by_cases z : s = 6
      · rw [if_pos z] at he
        have e2 : ¬ sz1 k < 6 := by omega
        simp only [u_25_5, u_25_8, u_25_9, u_25_11, u_25_14, u_25_14n, u_25_15, u_25_18, u_25_21, u_25_21n, u_25_22, u_25_22n, u_25_23, u_25_26, u_25_29, u_25_30, u_25_30_0, u_25_30_1, pm_O_some, pm_w_nil, pm_w_i, pm_w_l, pm_w_r, pm_w_n, pm_c_n, pm_c_i, pm_c_l, pm_c_r, pm_c_u, Nat.reduceAdd, Nat.reduceLeDiff, true_and, Option.toList_some, Option.toList_none, List.cons_append, List.nil_append, i10, if_false, if_neg e1, m2.io, c_room m2, if_neg e2, i00, if_true]
        exact hf p1 hc he.symm m1 m2.x m3
      · rw [if_neg z] at he
        have e2 : sz1 k < 6 := by omega
        simp only [u_25_5, u_25_8, u_25_9, u_25_11, u_25_14, u_25_14n, u_25_15, u_25_18, u_25_21, u_25_21n, u_25_22, u_25_22n, u_25_23, pm_O_some, pm_w_nil, pm_w_i, pm_w_l, pm_w_r, pm_w_n, pm_c_n, pm_c_i, pm_c_l, pm_c_r, pm_c_u, Nat.reduceAdd, Nat.reduceLeDiff, true_and, Option.toList_some, Option.toList_none, List.cons_append, List.nil_append, i10, if_false, if_neg e1, m2.io, c_room m2, if_pos e2, m1.io]
        refine c_term m1 m2 e2 dr (fun T q hA t1 y1 y2 y3 => ?_) (fun w hA t1 y1 y2 y3 => ?_)
        · rw [t1] at he
          simp only at he
          simp only [u_25_26, u_25_29, u_25_30, u_25_30_0, u_25_30_1, u_25_31, u_25_31n, u_25_32, pm_O_some, pm_w_nil, pm_w_i, pm_w_l, pm_w_r, pm_w_n, pm_c_n, pm_c_i, pm_c_l, pm_c_r, pm_c_u, Nat.reduceAdd, Nat.reduceLeDiff, true_and, Option.toList_some, Option.toList_none, List.cons_append, List.nil_append, i10, not_false_eq_true, if_true, y1.io]
          refine c_skip y1 (fun hB x1 x2 => ?_)
          obtain ⟨b1, b2, fT, b3, b4, b5⟩ := id x1
          rw [hsz] at y2
          have o2 := y2.frm x2 (by omega)
          have FF : Fr2 B h hB r := (m3.trans y3).trans (Fr2.r3 x2)
          have hszk : (ups sz1 k (s + 1)) k = s + 1 := ups_s
          have hoth2 : ∀ j, j < k → (ups sz1 k (s + 1)) j = sz j := fun j hj => (ups_n (by omega)).trans (hoth j hj)
          by_cases c1 : sk tx ln q < ln
          · have e3 : ¬ nI ln ≤ nI (sk tx ln q) := nI_ge c1 (by omega)
            have hlk : lk tx ln (sk tx ln q) = tx (sk tx ln q) := if_pos c1
            have hb := (b5 _ c1).2
            by_cases c2 : tx (sk tx ln q) = 59
            · rw [if_neg (fun c => c.2 c2)] at he
              have e4 : nI (tx (sk tx ln q)) = 59 := by rw [c2]; rfl
              simp only [u_25_35, u_25_35n, u_25_36, u_25_39, u_25_39n, u_25_40, u_25_43, u_25_46, u_25_46n, u_25_47, u_25_50, u_25_52, u_25_55, u_25_56, u_25_59, u_25_60, u_25_61, u_25_64, pm_O_some, pm_w_nil, pm_w_i, pm_w_l, pm_w_r, pm_w_n, pm_c_n, pm_c_i, pm_c_l, pm_c_r, pm_c_u, Nat.reduceAdd, Nat.reduceLeDiff, true_and, Option.toList_some, Option.toList_none, List.cons_append, List.nil_append, b3, gf_2_1, gf_2_2, if_neg e3, x1.io, s_here x1, hlk, e4, if_true, nI_1]
              simp only [u_25_4, u_25_5, u_25_67, u_25_68, u_25_68_0, u_25_68_1, pm_O_some, pm_w_nil, pm_w_i, pm_w_l, pm_w_r, pm_w_n, pm_c_n, pm_c_i, pm_c_l, pm_c_r, pm_c_u, Nat.reduceAdd, Nat.reduceLeDiff, true_and, Option.toList_some, Option.toList_none, List.cons_append, List.nil_append, i00, if_true]
              exact ht _ _ _ hB he.symm (by rw [hszk]; omega) hoth2 x1 o2 FF
            · rw [if_pos ⟨c1, c2⟩] at he
              have e4 : ¬ nI (tx (sk tx ln q)) = 59 := fun c => c2 ((nI_eq (b := 59) (by omega) (by decide)).mp c)
              simp only [u_25_35, u_25_35n, u_25_36, u_25_39, u_25_39n, u_25_40, u_25_43, u_25_46, u_25_46n, u_25_47, u_25_50, u_25_52, u_25_55, u_25_56, u_25_59, u_25_60, u_25_61, u_25_64, pm_O_some, pm_w_nil, pm_w_i, pm_w_l, pm_w_r, pm_w_n, pm_c_n, pm_c_i, pm_c_l, pm_c_r, pm_c_u, Nat.reduceAdd, Nat.reduceLeDiff, true_and, Option.toList_some, Option.toList_none, List.cons_append, List.nil_append, b3, gf_2_1, gf_2_2, if_neg e3, x1.io, s_here x1, hlk, if_neg e4, nI_1]
              exact ih (s + 1) _ _ _ hB (by omega) he hszk hoth2 x1 o2 FF
          · rw [if_neg (fun c => c1 c.1)] at he
            have e3 : nI ln ≤ nI (sk tx ln q) := nI_le (by omega) (by omega)
            simp only [u_25_35, u_25_35n, u_25_36, u_25_39, u_25_39n, u_25_40, u_25_43, u_25_46, u_25_46n, u_25_47, u_25_50, u_25_52, u_25_55, u_25_56, u_25_59, u_25_60, u_25_61, u_25_64, pm_O_some, pm_w_nil, pm_w_i, pm_w_l, pm_w_r, pm_w_n, pm_c_n, pm_c_i, pm_c_l, pm_c_r, pm_c_u, Nat.reduceAdd, Nat.reduceLeDiff, true_and, Option.toList_some, Option.toList_none, List.cons_append, List.nil_append, b3, gf_2_1, gf_2_2, if_pos e3, nI_1]
            simp only [u_25_4, u_25_5, u_25_67, u_25_68, u_25_68_0, u_25_68_1, pm_O_some, pm_w_nil, pm_w_i, pm_w_l, pm_w_r, pm_w_n, pm_c_n, pm_c_i, pm_c_l, pm_c_r, pm_c_u, Nat.reduceAdd, Nat.reduceLeDiff, true_and, Option.toList_some, Option.toList_none, List.cons_append, List.nil_append, i00, if_true]
            exact ht _ _ _ hB he.symm (by rw [hszk]; omega) hoth2 x1 o2 FF
        · rw [t1] at he
          simp only at he
          simp only [u_25_26, u_25_29, u_25_30, u_25_30_0, u_25_30_1, pm_O_some, pm_w_nil, pm_w_i, pm_w_l, pm_w_r, pm_w_n, pm_c_n, pm_c_i, pm_c_l, pm_c_r, pm_c_u, Nat.reduceAdd, Nat.reduceLeDiff, true_and, Option.toList_some, Option.toList_none, List.cons_append, List.nil_append, i00, not_true, if_false]
          exact hf w hA he.symm y1 y2 (m3.trans y3)
  simp only [u_25_0, u_25_1, u_25_2, u_25_3, pm_O_some, pm_w_nil, pm_w_i, pm_w_l, pm_w_r, pm_w_n, pm_c_n, pm_c_i, pm_c_l, pm_c_r, pm_c_u, Nat.reduceAdd, Nat.reduceLeDiff, true_and, Option.toList_some, Option.toList_none, List.cons_append, List.nil_append]
  exact loop 7 0 p sz tm h (by omega) rfl hs (fun j hj => rfl) n1 n2 Fr2.rfl'
end PE

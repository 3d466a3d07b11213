/-! readInto; the call rules. -/
section PF
variable {B : Nat} {X : pm_X} {h h' h2 : pm_H} {Q : Option Value → pm_H → Prop} {lo hi n ln p c r nr k s nd nl : Nat} {tx sz lm ll : Nat → Nat} {tm : Nat → Nat → Tm} {T : Tm} {bs : Nat → Bg} {dy : Nat → Int} {jk : Option (Nat × Nat)}
theorem c_into (n1 : RdV B h ln tx) (n2 : RsX B h r) (dr : B + 5 ≤ r)
    (ht : ∀ nr sz tm q h', prs0 tx ln = .inr (nr, sz, tm) → (∀ k, k < nr → 1 ≤ sz k) → RdP B h' ln tx q → RsP B h' r nr sz tm → Fr2 B h h' r → Q (some (.int (nI nr))) h')
    (hf : ∀ w h', prs0 tx ln = .inl w → RdP B h' ln tx w → RsX B h' r → Fr2 B h h' r → Q (some (.int (-1 - nI w))) h') :
    PW B X 21 0 [some (.ref (B + 3)), some (.ref r), none, none] [] h Q := by
  have loop : ∀ f rr p1 p2 sz1 tm1 hc, rr + f = 9 → prs tx ln f rr p1 sz1 tm1 = prs0 tx ln → sk tx ln p2 = sk tx ln p1 → (∀ k, k < rr → 1 ≤ sz1 k) → RdP B hc ln tx p2 → RsP B hc r rr sz1 tm1 → Fr2 B h hc r → PW B X 21 13 [some (.ref (B + 3)), some (.ref r), some (.int 1), some (.int (nI rr))] [] hc Q := by
    intro f
    induction f with
    | zero =>
      intro rr p1 p2 sz1 tm1 hc hsf he hsk hsz m1 m2 m3
      obtain ⟨fc, fu, fl, fk, fs, g1, g2, g3⟩ := m2
      omega
    | succ f ih =>
      intro rr p1 p2 sz1 tm1 hc hsf he hsk hsz m1 m2 m3
      rw [prs] at he
      have e1 : ¬ (8 : Int32) < nI rr := nI_nlt (b := rr) (a := 8) (by omega) (by decide)
      rw [u_21_13]
      simp only [u_21_14, u_21_17, u_21_18, u_21_20, u_21_23, u_21_23n, u_21_24, pm_O_some, pm_w_nil, pm_w_i, pm_w_l, pm_w_r, pm_w_n, pm_c_n, pm_c_i, pm_c_l, pm_c_r, pm_c_u, Nat.reduceAdd, Nat.reduceLeDiff, true_and, Option.toList_some, Option.toList_none, List.cons_append, List.nil_append, i10, if_false, if_neg e1, m1.io]
      refine c_skip m1 (fun hA x1 x2 => ?_)
      rw [hsk] at x1
      have o2 := m2.frm x2 (by omega)
      have F1 : Fr2 B h hA r := m3.trans (Fr2.r3 x2)
      simp only [u_21_27, u_21_27n, u_21_28, pm_O_some, pm_w_nil, pm_w_i, pm_w_l, pm_w_r, pm_w_n, pm_c_n, pm_c_i, pm_c_l, pm_c_r, pm_c_u, Nat.reduceAdd, Nat.reduceLeDiff, true_and, Option.toList_some, Option.toList_none, List.cons_append, List.nil_append, o2.io]
      refine c_begin o2 (fun hlt hB y1 y2 => ?_) (fun hlt => ?_)
      · rw [if_neg (by omega)] at he
        have x3 := x1.frm y2 (by omega)
        simp only [u_21_31, u_21_34, u_21_34n, u_21_35, u_21_35n, u_21_36, pm_O_some, pm_w_nil, pm_w_i, pm_w_l, pm_w_r, pm_w_n, pm_c_n, pm_c_i, pm_c_l, pm_c_r, pm_c_u, Nat.reduceAdd, Nat.reduceLeDiff, true_and, Option.toList_some, Option.toList_none, List.cons_append, List.nil_append, i10, if_false, x3.io]
        refine c_rule x3 y1 ups_s dr (fun q sz' tm' hC t1 t2 t3 z1 z2 z3 => ?_) (fun w hC t1 z1 z2 z3 => ?_)
        · rw [t1] at he
          simp only at he
          have F2 : Fr2 B h hC r := (F1.trans (Fr2.rr y2)).trans z3
          have hsz2 : ∀ k, k < rr + 1 → 1 ≤ sz' k := by
            intro k hk
            by_cases e : k = rr
            · rw [e]
              exact t2
            · rw [t3 k (by omega), ups_n e]
              exact hsz k (by omega)
          simp only [u_21_39, u_21_42, u_21_43, u_21_43n, u_21_44, u_21_47, u_21_48, u_21_49, u_21_49n, u_21_50, u_21_52, pm_O_some, pm_w_nil, pm_w_i, pm_w_l, pm_w_r, pm_w_n, pm_c_n, pm_c_i, pm_c_l, pm_c_r, pm_c_u, Nat.reduceAdd, Nat.reduceLeDiff, true_and, Option.toList_some, Option.toList_none, List.cons_append, List.nil_append, i10, not_false_eq_true, if_true, z1.io]
          refine c_take (c := 59) z1 (by omega) (by omega) (fun hsl hD w1 w2 => ?_) (fun hsl => ?_)
          · rw [if_pos hsl] at he
            simp only [u_21_55, u_21_56, u_21_59, pm_O_some, pm_w_nil, pm_w_i, pm_w_l, pm_w_r, pm_w_n, pm_c_n, pm_c_i, pm_c_l, pm_c_r, pm_c_u, Nat.reduceAdd, Nat.reduceLeDiff, true_and, Option.toList_some, Option.toList_none, List.cons_append, List.nil_append, nI_1]
            exact ih (rr + 1) (q + 1) _ sz' tm' hD (by omega) he sk_sk hsz2 w1 (z2.frm w2 (by omega)) (F2.trans (Fr2.r3 w2))
          · rw [if_neg hsl] at he
            obtain ⟨fc, fu, fl, fk, fs, ⟨g0, gq⟩, g2, g3⟩ := id z2
            simp only [u_21_55, u_21_56, u_21_59, pm_O_some, pm_w_nil, pm_w_i, pm_w_l, pm_w_r, pm_w_n, pm_c_n, pm_c_i, pm_c_l, pm_c_r, pm_c_u, Nat.reduceAdd, Nat.reduceLeDiff, true_and, Option.toList_some, Option.toList_none, List.cons_append, List.nil_append, nI_1]
            simp only [u_21_13, u_21_14, u_21_62, u_21_62n, u_21_63, u_21_66, pm_O_some, pm_w_nil, pm_w_i, pm_w_l, pm_w_r, pm_w_n, pm_c_n, pm_c_i, pm_c_l, pm_c_r, pm_c_u, Nat.reduceAdd, Nat.reduceLeDiff, true_and, Option.toList_some, Option.toList_none, List.cons_append, List.nil_append, i00, if_true, g0, gf_3_5]
            exact ht (rr + 1) sz' tm' q hC he.symm hsz2 z1 z2 F2
        · rw [t1] at he
          simp only at he
          obtain ⟨b1, b2, fT, b3, b4, b5⟩ := id z1
          simp only [u_21_39, u_21_42, u_21_43, u_21_43n, u_21_44, u_21_47, u_21_48, pm_O_some, pm_w_nil, pm_w_i, pm_w_l, pm_w_r, pm_w_n, pm_c_n, pm_c_i, pm_c_l, pm_c_r, pm_c_u, Nat.reduceAdd, Nat.reduceLeDiff, true_and, Option.toList_some, Option.toList_none, List.cons_append, List.nil_append, i00, not_true, if_false, b3, gf_2_2]
          exact hf w hC he.symm z1 z2 ((F1.trans (Fr2.rr y2)).trans z3)
      · rw [if_pos (by have : rr ≤ 8 := by { obtain ⟨fc, fu, fl, fk, fs, g1, g2, g3⟩ := m2; exact g2 }; omega)] at he
        obtain ⟨b1, b2, fT, b3, b4, b5⟩ := id x1
        simp only [u_21_31, u_21_42, u_21_43, u_21_43n, u_21_44, u_21_47, u_21_48, pm_O_some, pm_w_nil, pm_w_i, pm_w_l, pm_w_r, pm_w_n, pm_c_n, pm_c_i, pm_c_l, pm_c_r, pm_c_u, Nat.reduceAdd, Nat.reduceLeDiff, true_and, Option.toList_some, Option.toList_none, List.cons_append, List.nil_append, i00, if_true, b3, gf_2_2]
        exact hf _ hA he.symm x1 o2.x F1
  simp only [u_21_0, u_21_0n, u_21_1, pm_O_some, pm_w_nil, pm_w_i, pm_w_l, pm_w_r, pm_w_n, pm_c_n, pm_c_i, pm_c_l, pm_c_r, pm_c_u, Nat.reduceAdd, Nat.reduceLeDiff, true_and, Option.toList_some, Option.toList_none, List.cons_append, List.nil_append, n2.io]
  refine c_rclear (sz := fun _ => 0) (tm := fun _ _ => (0, 0, 0, 0)) n2 (fun hA y1 y2 => ?_)
  obtain ⟨b1, at0, fT, b3, b4, b5⟩ := n1.frm y2 (by omega)
  have w2 := Frm.set (e := .inr (2, [.ref (B + 4), .int (nI ln), .int (nI 0)])) b3 rfl
  have w1 : RdP B (pm_set B hA (B + 3) (.inr (2, [.ref (B + 4), .int (nI ln), .int (nI 0)]))) ln tx 0 := ⟨b1, by omega, fT, pm_at_self (pm_v_at b3), (w2.2.2 _ (by omega)).trans b4, b5⟩
  simp only [u_21_4, u_21_4n, u_21_5, u_21_6, u_21_9, u_21_10, u_21_11, u_21_12, pm_O_some, pm_w_nil, pm_w_i, pm_w_l, pm_w_r, pm_w_n, pm_c_n, pm_c_i, pm_c_l, pm_c_r, pm_c_u, Nat.reduceAdd, Nat.reduceLeDiff, true_and, Option.toList_some, Option.toList_none, List.cons_append, List.nil_append, b3, pf_2_2]
  exact loop 9 0 0 0 _ _ _ (by omega) rfl rfl (fun k hk => by omega) w1 (y1.frm w2 (by omega)) ((Fr2.rr y2).trans (Fr2.r3 w2))
theorem neg_ans {w : Nat} (h : w ≤ 200) : -1 - nI w < 0 := by
  rw [i_lt, i_sub (by rw [nI_toInt (by omega)]; show -2 ^ 31 ≤ (-1 : Int) - _; omega) (by rw [nI_toInt (by omega)]; show (-1 : Int) - _ < 2 ^ 31; omega), nI_toInt (by omega)]
  show (-1 : Int) - _ < 0
  omega
theorem Kp.of2 (f : Fr2 B h h' r) (d : r + 6 ≤ B + 71) : Kp B h h' := ⟨f.1, f.2.1, fun q a b => f.2.2 q (by omega) (by omega)⟩
theorem c_rules (n1 : CC B h n bs ln tx nr sz tm nd dy nl lm ll jk)
    (hg : ∀ nr' sz' tm' h', prs0 tx ln = .inr (nr', sz', tm') → CC B h' n bs 0 tx nr' sz' tm' nd dy nl lm ll jk → Kp B h h' → Q (some (.int (nI nr'))) h')
    (hb : ∀ w h', prs0 tx ln = .inl w → CC B h' n bs 0 tx nr sz tm nd dy nl lm ll jk → Kp B h h' → Q (some (.int (-1 - nI w))) h') :
    PW B X 20 0 [some (.ref B), none, none] [] h Q := by
  obtain ⟨⟨rs, rs2, lw, jh, jm, ra, a1, a2, a3, ⟨a4, at0, fT, a5, a6, a7⟩, a8, a9, a10, a11⟩, n2⟩ := n1
  have w1 : (B + 5 ≤ rs ∧ rs ≤ B + 11) ∧ (B + 5 ≤ rs2 ∧ rs2 ≤ B + 11) ∧ (rs + 6 ≤ rs2 ∨ rs2 + 6 ≤ rs) := by rcases a2 with ⟨z1, z2⟩ | ⟨z1, z2⟩ <;> omega
  have io3 : pm_io B h (B + 3) 2 = true := pm_io_of a5
  simp only [u_20_0, u_20_0n, u_20_1, u_20_4, u_20_4n, u_20_5, u_20_8, pm_O_some, pm_w_nil, pm_w_i, pm_w_l, pm_w_r, pm_w_n, pm_c_n, pm_c_i, pm_c_l, pm_c_r, pm_c_u, Nat.reduceAdd, Nat.reduceLeDiff, true_and, Option.toList_some, Option.toList_none, List.cons_append, List.nil_append, a1, gf_0_3, gf_0_5, io3]
  -- the reader's place may be any: laid anew
  have key : ∀ (hA : pm_H) (q : Nat), RdP B hA ln tx q → Fr2 B h hA rs2 → ∀ hC, (hC = pm_set B hA (B + 3) (.inr (2, [.ref (B + 4), .int (nI 0), .int (nI q)]))) →
      pm_at B hC B = some (.inr (0, [.ref (B + 1), .int (nI n), .ref (B + 2), .ref (B + 3), .ref rs, .ref rs2, .ref (B + 17), .ref (B + 22), .ref (B + 48), .ref (B + 53), .int (nI nd), .int lw, .long (lN (wy dy nd)), .ref (B + 69), .ref (B + 70), .int (nI nl), .int jh, .int jm, .int ra])) ∧ BsV B hC n bs ∧ RdV B hC 0 tx ∧ RsV B hC rs nr (su sz nr) sz tm ∧ LsV B hC nl lm ll ∧ CW B hC ∧ Kp B h hC ∧ Frm B hA hC (B + 3) (B + 4) := by
    intro hA q m1 m2 hC e
    subst e
    obtain ⟨b1, b2, fT, b3, b4, b5⟩ := m1
    have F := Frm.set (e := .inr (2, [.ref (B + 4), .int (nI 0), .int (nI q)])) b3 rfl
    have G : Frx B h (pm_set B hA (B + 3) (.inr (2, [.ref (B + 4), .int (nI 0), .int (nI q)]))) (B + 3) (B + 17) := by
      intro p hp
      rw [F.2.2 p (by omega), m2.2.2 p (by omega) (by omega)]
    obtain ⟨z1, ⟨fb, z2, z3⟩, z4⟩ := a3
    refine ⟨(G _ (by omega)).trans a1, ⟨z1, ⟨fb, (G _ (by omega)).trans z2, z3⟩, fun i hi => ⟨(z4 i hi).1.frx G (by omega), (z4 i hi).2⟩⟩, ⟨by omega, _, fT, pm_at_self (pm_v_at b3), (F.2.2 _ (by omega)).trans b4, fun i hi => by omega⟩, ?_, a10.frx G (by omega), n2.frx G (by omega), (Kp.of2 m2 (by omega)).trans (Kp.of F (by omega)), F⟩
    obtain ⟨fc, fu, fl, fk, fs, ⟨g1, g2, g3, g4, g5, g6⟩, gg⟩ := a8
    have H : ∀ p, rs ≤ p → p < rs + 6 → pm_at B (pm_set B hA (B + 3) (.inr (2, [.ref (B + 4), .int (nI 0), .int (nI q)]))) p = pm_at B h p := by
      intro p p1 p2
      rw [F.2.2 p (by omega), m2.2.2 p (by omega) (by omega)]
    exact ⟨fc, fu, fl, fk, fs, ⟨(H _ (by omega) (by omega)).trans g1, (H _ (by omega) (by omega)).trans g2, (H _ (by omega) (by omega)).trans g3, (H _ (by omega) (by omega)).trans g4, (H _ (by omega) (by omega)).trans g5, (H _ (by omega) (by omega)).trans g6⟩, gg⟩
  refine c_into ⟨a4, at0, fT, a5, a6, a7⟩ a9 (by omega) (fun nr' sz' tm' q hA t1 t2 m1 m2 m3 => ?_) (fun w hA t1 m1 m2 m3 => ?_)
  · obtain ⟨k1, k2, k3, k4, k5, k6, k7, k8⟩ := key hA q m1 m3 _ rfl
    have b0 := (m3.2.2 B (by omega) (by omega)).trans a1
    have m2n := m2.frm k8 (by omega)
    have e1 : ¬ nI nr' < 0 := nI_pos (by obtain ⟨fc, fu, fl, fk, fs, g1, g2, g3⟩ := m2; omega)
    obtain ⟨c1, c2, fT2, c3, c4, c5⟩ := m1
    simp only [u_20_11, u_20_12, u_20_12n, u_20_13, u_20_16, pm_O_some, pm_w_nil, pm_w_i, pm_w_l, pm_w_r, pm_w_n, pm_c_n, pm_c_i, pm_c_l, pm_c_r, pm_c_u, Nat.reduceAdd, Nat.reduceLeDiff, true_and, Option.toList_some, Option.toList_none, List.cons_append, List.nil_append, b0, gf_0_3, pm_io_of c3]
    simp only [u_33_0, u_33_0n, u_33_1, u_33_2, u_33_5, pm_O_some, pm_w_nil, pm_w_i, pm_w_l, pm_w_r, pm_w_n, pm_c_n, pm_c_i, pm_c_l, pm_c_r, pm_c_u, Nat.reduceAdd, Nat.reduceLeDiff, true_and, Option.toList_some, Option.toList_none, List.cons_append, List.nil_append, c3, pf_2_1]
    have e0 : (0 : Int32) = nI 0 := rfl
    rw [e0]
    generalize pm_set B hA (B + 3) (.inr (2, [.ref (B + 4), .int (nI 0), .int (nI q)])) = hC at k1 k2 k3 k4 k5 k6 k7 k8 m2n ⊢
    simp only [u_20_19, u_20_20, u_20_23, u_20_23n, u_20_24, u_20_27, u_20_27n, u_20_28, u_20_28n, u_20_29, u_20_29n, u_20_30, u_20_33, pm_O_some, pm_w_nil, pm_w_i, pm_w_l, pm_w_r, pm_w_n, pm_c_n, pm_c_i, pm_c_l, pm_c_r, pm_c_u, Nat.reduceAdd, Nat.reduceLeDiff, true_and, Option.toList_some, Option.toList_none, List.cons_append, List.nil_append, if_neg e1, k1, gf_0_4, gf_0_5, pf_0_4]
    have F := Frm.set (e := .inr (0, [.ref (B + 1), .int (nI n), .ref (B + 2), .ref (B + 3), .ref rs2, .ref rs2, .ref (B + 17), .ref (B + 22), .ref (B + 48), .ref (B + 53), .int (nI nd), .int lw, .long (lN (wy dy nd)), .ref (B + 69), .ref (B + 70), .int (nI nl), .int jh, .int jm, .int ra])) k1 rfl
    have r1 := pm_at_self (e := .inr (0, [.ref (B + 1), .int (nI n), .ref (B + 2), .ref (B + 3), .ref rs2, .ref rs2, .ref (B + 17), .ref (B + 22), .ref (B + 48), .ref (B + 53), .int (nI nd), .int lw, .long (lN (wy dy nd)), .ref (B + 69), .ref (B + 70), .int (nI nl), .int jh, .int jm, .int ra])) (pm_v_at k1)
    generalize pm_set B hC B (.inr (0, [.ref (B + 1), .int (nI n), .ref (B + 2), .ref (B + 3), .ref rs2, .ref rs2, .ref (B + 17), .ref (B + 22), .ref (B + 48), .ref (B + 53), .int (nI nd), .int lw, .long (lN (wy dy nd)), .ref (B + 69), .ref (B + 70), .int (nI nl), .int jh, .int jm, .int ra])) = hD at F r1 ⊢
    simp only [u_20_36, u_20_36n, u_20_37, u_20_37n, u_20_38, u_20_41, u_20_42, pm_O_some, pm_w_nil, pm_w_i, pm_w_l, pm_w_r, pm_w_n, pm_c_n, pm_c_i, pm_c_l, pm_c_r, pm_c_u, Nat.reduceAdd, Nat.reduceLeDiff, true_and, Option.toList_some, Option.toList_none, List.cons_append, List.nil_append, r1, pf_0_5]
    have G := Frm.set (e := .inr (0, [.ref (B + 1), .int (nI n), .ref (B + 2), .ref (B + 3), .ref rs2, .ref rs, .ref (B + 17), .ref (B + 22), .ref (B + 48), .ref (B + 53), .int (nI nd), .int lw, .long (lN (wy dy nd)), .ref (B + 69), .ref (B + 70), .int (nI nl), .int jh, .int jm, .int ra])) r1 rfl
    have s1 := pm_at_self (e := .inr (0, [.ref (B + 1), .int (nI n), .ref (B + 2), .ref (B + 3), .ref rs2, .ref rs, .ref (B + 17), .ref (B + 22), .ref (B + 48), .ref (B + 53), .int (nI nd), .int lw, .long (lN (wy dy nd)), .ref (B + 69), .ref (B + 70), .int (nI nl), .int jh, .int jm, .int ra])) (pm_v_at r1)
    generalize pm_set B hD B (.inr (0, [.ref (B + 1), .int (nI n), .ref (B + 2), .ref (B + 3), .ref rs2, .ref rs, .ref (B + 17), .ref (B + 22), .ref (B + 48), .ref (B + 53), .int (nI nd), .int lw, .long (lN (wy dy nd)), .ref (B + 69), .ref (B + 70), .int (nI nl), .int jh, .int jm, .int ra])) = hE at G s1 ⊢
    have FG := F.trans G
    refine hg nr' sz' tm' hE t1 ⟨⟨rs2, rs, lw, jh, jm, ra, s1, by omega, k2.frm FG (by omega), k3.frm FG (by omega), ?_, ?_, k5.frm FG (by omega), a11⟩, k6.frm FG (by omega)⟩ (k7.trans (Kp.of FG (by omega)))
    · obtain ⟨fc, fu, fl, fk, fs, g1, g2, g3⟩ := m2n.frm FG (by omega)
      exact ⟨fc, fu, fl, fk, fs, g1, g2, fun k hk => ⟨(g3 k hk).1, t2 k hk, (g3 k hk).2⟩⟩
    · obtain ⟨fc, fu, fl, fk, fs, g1, g2⟩ := k4.frm FG (by omega)
      exact ⟨fc, fu, fl, fk, fs, _, _, g1⟩
  · obtain ⟨k1, k2, k3, k4, k5, k6, k7, k8⟩ := key hA w m1 m3 _ rfl
    have b0 := (m3.2.2 B (by omega) (by omega)).trans a1
    have m2n := m2.frm k8 (by omega)
    obtain ⟨c1, c2, fT2, c3, c4, c5⟩ := m1
    have e1 : -1 - nI w < 0 := neg_ans (by omega)
    simp only [u_20_11, u_20_12, u_20_12n, u_20_13, u_20_16, pm_O_some, pm_w_nil, pm_w_i, pm_w_l, pm_w_r, pm_w_n, pm_c_n, pm_c_i, pm_c_l, pm_c_r, pm_c_u, Nat.reduceAdd, Nat.reduceLeDiff, true_and, Option.toList_some, Option.toList_none, List.cons_append, List.nil_append, b0, gf_0_3, pm_io_of c3]
    simp only [u_33_0, u_33_0n, u_33_1, u_33_2, u_33_5, pm_O_some, pm_w_nil, pm_w_i, pm_w_l, pm_w_r, pm_w_n, pm_c_n, pm_c_i, pm_c_l, pm_c_r, pm_c_u, Nat.reduceAdd, Nat.reduceLeDiff, true_and, Option.toList_some, Option.toList_none, List.cons_append, List.nil_append, c3, pf_2_1]
    have e0 : (0 : Int32) = nI 0 := rfl
    rw [e0]
    generalize pm_set B hA (B + 3) (.inr (2, [.ref (B + 4), .int (nI 0), .int (nI w)])) = hC at k1 k2 k3 k4 k5 k6 k7 k8 m2n ⊢
    simp only [u_20_19, u_20_20, u_20_41, u_20_42, pm_O_some, pm_w_nil, pm_w_i, pm_w_l, pm_w_r, pm_w_n, pm_c_n, pm_c_i, pm_c_l, pm_c_r, pm_c_u, Nat.reduceAdd, Nat.reduceLeDiff, true_and, Option.toList_some, Option.toList_none, List.cons_append, List.nil_append, if_pos e1]
    exact hb w hC t1 ⟨⟨rs, rs2, lw, jh, jm, ra, k1, a2, k2, k3, k4, m2n, k5, a11⟩, k6⟩ k7
end PF

/-! THE REFERENCE: isBefore, inspect. -/
theorem cq_0 {q q2 : Rat} : cq q q2 = 0 ↔ q = q2 := by
  unfold cq
  by_cases c1 : q < q2
  · rw [if_pos c1]
    refine ⟨fun z => absurd z (by decide), fun z => ?_⟩
    subst z
    exact absurd c1 (Rat.not_lt.mpr Rat.le_refl)
  · rw [if_neg c1]
    by_cases c2 : q = q2
    · rw [if_pos c2]
      exact ⟨fun _ => c2, fun _ => rfl⟩
    · rw [if_neg c2]
      exact ⟨fun z => absurd z (by decide), fun z => absurd z c2⟩
section INS
variable {B : Nat} {X : pm_X} {h h' h2 : pm_H} {Q : Option Value → pm_H → Prop} {m lo hi n ln nr nd nl i k a : Nat} {bs : Nat → Bg} {tx sz lm ll : Nat → Nat} {tm : Nat → Nat → Tm} {dy : Nat → Int} {jk : Option (Nat × Nat)} {R : Nat → Rg}
theorem c_isBefore {b : Nat} (so : SO n bs ln tx nr sz tm nd dy nl lm ll jk) (n1 : MI B h m n bs ln tx nr sz tm nd dy nl lm ll jk) (ha : a < n) (hb : b < n) (hQ : ∀ h' x, MI B h' m n bs ln tx nr sz tm nd dy nl lm ll jk → ((x = 1 ∧ bfr (WW bs nd dy) (QQ bs nr sz tm) a b) ∨ (x = 0 ∧ ¬ bfr (WW bs nd dy) (QQ bs nr sz tm) a b)) → Frs B h h' m → Q (some (.int x)) h') :
    PW B X 144 0 [some (.ref m), some (.int (nI a)), some (.int (nI b)), none] [] h Q := by
  have hn := so.1.1
  have wa := fw_b' so ha
  have wb := fw_b' so hb
  have le := lI_eq (a := fw (bs a) (wy dy nd)) (b := fw (bs b) (wy dy nd)) (by omega) (by omega)
  have llt := lI_lt (a := fw (bs b) (wy dy nd)) (b := fw (bs a) (wy dy nd)) (by omega) (by omega)
  simp only [u_144_0, u_144_0n, u_144_1, u_144_2, pm_O_some, pm_w_nil, pm_w_i, pm_w_l, pm_w_r, pm_w_n, pm_c_n, pm_c_i, pm_c_l, pm_c_r, pm_c_u, Nat.reduceAdd, Nat.reduceLeDiff, true_and, Option.toList_some, Option.toList_none, List.cons_append, List.nil_append, n1.io]
  refine c_way so n1 ha ?_
  simp only [u_144_5, u_144_5n, u_144_6, u_144_7, pm_O_some, pm_w_nil, pm_w_i, pm_w_l, pm_w_r, pm_w_n, pm_c_n, pm_c_i, pm_c_l, pm_c_r, pm_c_u, Nat.reduceAdd, Nat.reduceLeDiff, true_and, Option.toList_some, Option.toList_none, List.cons_append, List.nil_append, n1.io]
  refine c_way so n1 hb ?_
  by_cases c0 : fw (bs a) (wy dy nd) = fw (bs b) (wy dy nd)
  · have e0 : lI (fw (bs a) (wy dy nd)) = lI (fw (bs b) (wy dy nd)) := le.mpr c0
    obtain ⟨R, ns⟩ : ∃ R, NS B h m R := n1.2.2.2.2.2.2.2.2.2.2.2.2
    simp only [u_144_10, u_144_11, u_144_34, u_144_34n, u_144_35, u_144_36, u_144_37, pm_O_some, pm_w_nil, pm_w_i, pm_w_l, pm_w_r, pm_w_n, pm_c_n, pm_c_i, pm_c_l, pm_c_r, pm_c_u, Nat.reduceAdd, Nat.reduceLeDiff, true_and, Option.toList_some, Option.toList_none, List.cons_append, List.nil_append, lg_cmp_eq, e0, if_true, n1.io]
    refine c_sumAll (a := 2) so n1 ns ha (by omega) (fun h1 R1 y0 y7 y8 y9 y10 y13 y19 y21 y24 y25 mi1 m1 q1 q2 q3 c1 F1 => ?_)
    simp only [u_144_40, u_144_40n, u_144_41, u_144_42, u_144_44, pm_O_some, pm_w_nil, pm_w_i, pm_w_l, pm_w_r, pm_w_n, pm_c_n, pm_c_i, pm_c_l, pm_c_r, pm_c_u, Nat.reduceAdd, Nat.reduceLeDiff, true_and, Option.toList_some, Option.toList_none, List.cons_append, List.nil_append, c1.io]
    refine c_copy (p := 1) (q := 7) m1 (by omega) (by omega) (by omega) (fun h2 m2 F2 => ?_)
    have mi2 := mi1.regs F2.fx m2
    simp only [u_144_47, u_144_47n, u_144_48, u_144_49, u_144_50, pm_O_some, pm_w_nil, pm_w_i, pm_w_l, pm_w_r, pm_w_n, pm_c_n, pm_c_i, pm_c_l, pm_c_r, pm_c_u, Nat.reduceAdd, Nat.reduceLeDiff, true_and, Option.toList_some, Option.toList_none, List.cons_append, List.nil_append, m2.io]
    refine c_sumAll (a := 2) so mi2 m2 hb (by omega) (fun h3 R3 z0 z7 z8 z9 z10 z13 z19 z21 z24 z25 mi3 m3 p1 p2 p3 c3 F3 => ?_)
    simp only [u_144_53, u_144_53n, u_144_54, u_144_56, u_144_57, pm_O_some, pm_w_nil, pm_w_i, pm_w_l, pm_w_r, pm_w_n, pm_c_n, pm_c_i, pm_c_l, pm_c_r, pm_c_u, Nat.reduceAdd, Nat.reduceLeDiff, true_and, Option.toList_some, Option.toList_none, List.cons_append, List.nil_append, c3.io]
    have s1 := (LM_s so ha (show 2 < 3 by omega) (Nat.le_refl nr)).2
    have s2 := (LM_s so hb (show 2 < 3 by omega) (Nat.le_refl nr)).2
    refine c_compare (a := 7) (b := 1) (qa := (GM (bs a) nr sz tm 2).1) (qb := (GM (bs b) nr sz tm 2).1) m3 ?_ p2 (by omega) (by omega) s1.s9 s2.s9 (fun h4 R4 m4 p4 F4 => ?_)
    · rw [p3 7 (by omega), ups_s]
      exact q2
    · have FF := ((F1.trans F2.rs).trans F3).trans F4.rs
      have mi4 := mi3.regs F4.fx m4
      by_cases l1 : (GM (bs b) nr sz tm 2).1 < (GM (bs a) nr sz tm 2).1
      · have e1 : (0 : Int32) < cq (GM (bs a) nr sz tm 2).1 (GM (bs b) nr sz tm 2).1 := i_nle.mp (fun z => cq_pos.mp z l1)
        simp only [u_144_60, u_144_61, u_144_62, u_144_74, u_144_75, u_144_78, u_144_79, u_144_79_0, u_144_79_1, pm_O_some, pm_w_nil, pm_w_i, pm_w_l, pm_w_r, pm_w_n, pm_c_n, pm_c_i, pm_c_l, pm_c_r, pm_c_u, Nat.reduceAdd, Nat.reduceLeDiff, true_and, Option.toList_some, Option.toList_none, List.cons_append, List.nil_append, if_pos e1]
        exact hQ h4 1 mi4 (Or.inl ⟨rfl, Or.inr ⟨c0, Or.inl l1⟩⟩) FF
      · have e1 : ¬ (0 : Int32) < cq (GM (bs a) nr sz tm 2).1 (GM (bs b) nr sz tm 2).1 := i_nlt.mpr (cq_pos.mpr l1)
        by_cases l2 : (GM (bs a) nr sz tm 2).1 = (GM (bs b) nr sz tm 2).1
        · have e2 : ¬ ¬ cq (GM (bs a) nr sz tm 2).1 (GM (bs b) nr sz tm 2).1 = 0 := fun z => z (cq_0.mpr l2)
          by_cases l3 : a < b
          · have e3 : ¬ nI b ≤ nI a := nI_ge l3 (by omega)
            simp only [u_144_60, u_144_61, u_144_62, u_144_65, u_144_66, u_144_69, u_144_70, u_144_71, u_144_74, u_144_75, u_144_78, u_144_79, u_144_79_0, u_144_79_1, pm_O_some, pm_w_nil, pm_w_i, pm_w_l, pm_w_r, pm_w_n, pm_c_n, pm_c_i, pm_c_l, pm_c_r, pm_c_u, Nat.reduceAdd, Nat.reduceLeDiff, true_and, Option.toList_some, Option.toList_none, List.cons_append, List.nil_append, if_neg e1, if_neg e2, if_neg e3]
            exact hQ h4 1 mi4 (Or.inl ⟨rfl, Or.inr ⟨c0, Or.inr ⟨l2, l3⟩⟩⟩) FF
          · have e3 : nI b ≤ nI a := nI_le (by omega) (by omega)
            simp only [u_144_60, u_144_61, u_144_62, u_144_65, u_144_66, u_144_69, u_144_70, u_144_71, u_144_74, u_144_75, u_144_78, u_144_79, u_144_79_0, u_144_79_1, pm_O_some, pm_w_nil, pm_w_i, pm_w_l, pm_w_r, pm_w_n, pm_c_n, pm_c_i, pm_c_l, pm_c_r, pm_c_u, Nat.reduceAdd, Nat.reduceLeDiff, true_and, Option.toList_some, Option.toList_none, List.cons_append, List.nil_append, if_neg e1, if_neg e2, if_pos e3]
            refine hQ h4 0 mi4 (Or.inr ⟨rfl, ?_⟩) FF
            rintro (z | ⟨_, z | ⟨_, z⟩⟩)
            · exact absurd z (by show ¬ fw (bs b) (wy dy nd) < fw (bs a) (wy dy nd); omega)
            · exact l1 z
            · exact l3 z
        · have e2 : ¬ cq (GM (bs a) nr sz tm 2).1 (GM (bs b) nr sz tm 2).1 = 0 := mt cq_0.mp l2
          simp only [u_144_60, u_144_61, u_144_62, u_144_65, u_144_66, u_144_78, u_144_79, u_144_79_0, u_144_79_1, pm_O_some, pm_w_nil, pm_w_i, pm_w_l, pm_w_r, pm_w_n, pm_c_n, pm_c_i, pm_c_l, pm_c_r, pm_c_u, Nat.reduceAdd, Nat.reduceLeDiff, true_and, Option.toList_some, Option.toList_none, List.cons_append, List.nil_append, if_neg e1, if_pos e2]
          refine hQ h4 0 mi4 (Or.inr ⟨rfl, ?_⟩) FF
          rintro (z | ⟨_, z | ⟨z, _⟩⟩)
          · exact absurd z (by show ¬ fw (bs b) (wy dy nd) < fw (bs a) (wy dy nd); omega)
          · exact l1 z
          · exact l2 z
  · have e0 : ¬ lI (fw (bs a) (wy dy nd)) = lI (fw (bs b) (wy dy nd)) := mt le.mp c0
    simp only [u_144_10, u_144_11, u_144_14, u_144_14n, u_144_15, u_144_16, pm_O_some, pm_w_nil, pm_w_i, pm_w_l, pm_w_r, pm_w_n, pm_c_n, pm_c_i, pm_c_l, pm_c_r, pm_c_u, Nat.reduceAdd, Nat.reduceLeDiff, true_and, Option.toList_some, Option.toList_none, List.cons_append, List.nil_append, lg_cmp_eq, e0, if_false, n1.io]
    refine c_way so n1 ha ?_
    simp only [u_144_19, u_144_19n, u_144_20, u_144_21, pm_O_some, pm_w_nil, pm_w_i, pm_w_l, pm_w_r, pm_w_n, pm_c_n, pm_c_i, pm_c_l, pm_c_r, pm_c_u, Nat.reduceAdd, Nat.reduceLeDiff, true_and, Option.toList_some, Option.toList_none, List.cons_append, List.nil_append, n1.io]
    refine c_way so n1 hb ?_
    by_cases c1 : fw (bs b) (wy dy nd) < fw (bs a) (wy dy nd)
    · have e1 : ¬ lI (fw (bs a) (wy dy nd)) ≤ lI (fw (bs b) (wy dy nd)) := Int64.not_le.mpr (llt.mpr c1)
      simp only [u_144_24, u_144_25, u_144_28, u_144_29, u_144_32, u_144_33, u_144_33_0, u_144_33_1, pm_O_some, pm_w_nil, pm_w_i, pm_w_l, pm_w_r, pm_w_n, pm_c_n, pm_c_i, pm_c_l, pm_c_r, pm_c_u, Nat.reduceAdd, Nat.reduceLeDiff, true_and, Option.toList_some, Option.toList_none, List.cons_append, List.nil_append, lg_cmp_le, if_neg e1]
      exact hQ h 1 n1 (Or.inl ⟨rfl, Or.inl c1⟩) Frs.rfl'
    · have e1 : lI (fw (bs a) (wy dy nd)) ≤ lI (fw (bs b) (wy dy nd)) := Int64.not_lt.mp (mt llt.mp c1)
      simp only [u_144_24, u_144_25, u_144_28, u_144_29, u_144_32, u_144_33, u_144_33_0, u_144_33_1, pm_O_some, pm_w_nil, pm_w_i, pm_w_l, pm_w_r, pm_w_n, pm_c_n, pm_c_i, pm_c_l, pm_c_r, pm_c_u, Nat.reduceAdd, Nat.reduceLeDiff, true_and, Option.toList_some, Option.toList_none, List.cons_append, List.nil_append, lg_cmp_le, if_pos e1]
      refine hQ h 0 n1 (Or.inr ⟨rfl, ?_⟩) Frs.rfl'
      rintro (z | ⟨z, _⟩)
      · exact c1 z
      · exact c0 z
theorem MI.ord (n1 : MI B h m n bs ln tx nr sz tm nd dy nl lm ll jk) {f g : Nat → Int32} (hf : pm_at B h (m + 22) = some (.inl (0, 10, .inl f))) : MI B (pm_set B h (m + 22) (.inl (0, 10, .inl g))) m n bs ln tx nr sz tm nd dy nl lm ll jk ∧ Frm B h (pm_set B h (m + 22) (.inl (0, 10, .inl g))) (m + 22) (m + 23) := by
  have F := Frm.set (e := .inl (0, 10, .inl g)) hf rfl
  obtain ⟨a1, a2, a3, a4, a5, a6, a7, a8, a9, a10, a11, a12, R, a13⟩ := n1
  exact ⟨⟨a1.frm F.fx (by omega), a2.frm F.fx (by omega), a3.frm F.fx (by omega), a4.frm F.fx (by omega), a5.frm F.fx (by omega), a6.frm F.fx (by omega), a7.frm F.fx (by omega), a8.frm F.fx (by omega), a9.frm F.fx (by omega), a10.frm F.fx (by omega), ⟨g, pm_at_self (pm_v_at hf)⟩, a12.frm F.fx (by omega), R, a13.fx F.fx (by omega)⟩, F⟩
theorem r_inspect {b : Int32} (so : SO n bs ln tx nr sz tm nd dy nl lm ll jk) (n1 : MI B h m n bs ln tx nr sz tm nd dy nl lm ll jk) (hg : vb n b → ∀ i h', i < n → plc (WW bs nd dy) (QQ bs nr sz tm) i n = ix b → MI B h' m n bs ln tx nr sz tm nd dy nl lm ll jk → Frm B h h' m (m + 24) → Q (some (.int (nI i))) h') (hb : ¬ vb n b → Q (some (.int (-1))) h) :
    PW B X 143 0 [some (.ref m), some (.int b), none, none, none] [] h Q := by
  have hn := so.1.1
  obtain ⟨⟨x8, x9, x13, jh, jm, x31, x32, c, cj⟩, _⟩ := id n1
  by_cases h1 : ¬ (0 ≤ b.toInt ∧ b.toInt < (n : Int))
  · simp only [u_143_0, u_143_0n, u_143_1, u_143_2, u_143_5, u_143_8, u_143_9, pm_O_some, pm_w_nil, pm_w_i, pm_w_l, pm_w_r, pm_w_n, pm_c_n, pm_c_i, pm_c_l, pm_c_r, pm_c_u, Nat.reduceAdd, Nat.reduceLeDiff, true_and, Option.toList_some, Option.toList_none, List.cons_append, List.nil_append, c.io, s_isB c hn, one0, ite_not, if_neg h1]
    exact hb h1
  replace h1 := Decidable.not_not.mp h1
  have hg2 := hg h1
  obtain ⟨t, ht, hbt, hxt⟩ := vb_e hn h1
  rw [hxt] at hg2
  simp only [u_143_0, u_143_0n, u_143_1, u_143_2, u_143_5, pm_O_some, pm_w_nil, pm_w_i, pm_w_l, pm_w_r, pm_w_n, pm_c_n, pm_c_i, pm_c_l, pm_c_r, pm_c_u, Nat.reduceAdd, Nat.reduceLeDiff, true_and, Option.toList_some, Option.toList_none, List.cons_append, List.nil_append, c.io, s_isB c hn, one0, ite_not, if_pos h1]
  rw [hbt]
  have outer : ∀ d k hc w3 w4 f, k + d = n → MI B hc m n bs ln tx nr sz tm nd dy nl lm ll jk → pm_at B hc (m + 22) = some (.inl (0, 10, .inl f)) → (∀ j, j < k → f (plc (WW bs nd dy) (QQ bs nr sz tm) j n) = nI j) → Frm B h hc m (m + 24) → PW B X 143 12 [some (.ref m), some (.int (nI t)), some (.int (nI k)), w3, w4] [] hc Q := by
    intro d
    induction d with
    | zero =>
      intro k hc w3 w4 f hk mi o1 o2 F
      obtain rfl : k = n := by omega
      obtain ⟨⟨x8, x9, x13, jh, jm, x31, x32, c, cj⟩, _⟩ := id mi
      have e1 : nI k ≤ nI k := nI_le (Nat.le_refl _) (by omega)
      obtain ⟨i, i1, i2⟩ := plc_sur (W := WW bs nd dy) (q := QQ bs nr sz tm) ht
      have := o2 i i1
      rw [i2] at this
      simp only [u_143_12, u_143_13, u_143_13n, u_143_14, u_143_17, u_143_77, u_143_77n, u_143_78, u_143_81, u_143_82, u_143_83, pm_O_some, pm_w_nil, pm_w_i, pm_w_l, pm_w_r, pm_w_n, pm_c_n, pm_c_i, pm_c_l, pm_c_r, pm_c_u, Nat.reduceAdd, Nat.reduceLeDiff, true_and, Option.toList_some, Option.toList_none, List.cons_append, List.nil_append, c.g0, if_pos e1, c.g33, o1, ld_i (t := 0) (ix_10 (show t < 10 by omega)) rfl, nI_clamp (show t < 2 ^ 31 by omega), this]
      exact hg2 i hc i1 i2 mi F
    | succ d ih =>
      intro k hc w3 w4 f hk mi o1 o2 F
      have hk1 : k < n := by omega
      have e1 : ¬ nI n ≤ nI k := nI_ge hk1 (by omega)
      have inner : ∀ e o hc, o + e = n → MI B hc m n bs ln tx nr sz tm nd dy nl lm ll jk → pm_at B hc (m + 22) = some (.inl (0, 10, .inl f)) → Frm B h hc m (m + 24) → PW B X 143 25 [some (.ref m), some (.int (nI t)), some (.int (nI k)), some (.int (nI (plc (WW bs nd dy) (QQ bs nr sz tm) k o))), some (.int (nI o))] [] hc Q := by
        intro e
        induction e with
        | zero =>
          intro o hc ho mi o1 F
          obtain rfl : o = n := by omega
          obtain ⟨⟨x8, x9, x13, jh, jm, x31, x32, c, cj⟩, _⟩ := id mi
          have e1 : nI o ≤ nI o := nI_le (Nat.le_refl _) (by omega)
          have hl := (plc_lt (W := WW bs nd dy) (q := QQ bs nr sz tm) (b := k) o).2 hk1
          simp only [u_143_25, u_143_27, u_143_27n, u_143_28, u_143_31, u_143_64, u_143_64n, u_143_65, u_143_68, u_143_69, u_143_70, pm_O_some, pm_w_nil, pm_w_i, pm_w_l, pm_w_r, pm_w_n, pm_c_n, pm_c_i, pm_c_l, pm_c_r, pm_c_u, Nat.reduceAdd, Nat.reduceLeDiff, true_and, Option.toList_some, Option.toList_none, List.cons_append, List.nil_append, c.g0, if_pos e1, c.g33, o1, st_i (t := 0) (ix_10 (show plc (WW bs nd dy) (QQ bs nr sz tm) k o < 10 by omega)) rfl, nI_clamp (show plc (WW bs nd dy) (QQ bs nr sz tm) k o < 2 ^ 31 by omega), ty_0]
          obtain ⟨mi2, F2⟩ := mi.ord o1 (g := upd f (plc (WW bs nd dy) (QQ bs nr sz tm) k o) (nI k))
          simp only [u_143_71, u_143_74, pm_O_some, pm_w_nil, pm_w_i, pm_w_l, pm_w_r, pm_w_n, pm_c_n, pm_c_i, pm_c_l, pm_c_r, pm_c_u, Nat.reduceAdd, Nat.reduceLeDiff, true_and, Option.toList_some, Option.toList_none, List.cons_append, List.nil_append, nI_1]
          refine ih (k + 1) _ _ _ _ (by omega) mi2 (pm_at_self (pm_v_at o1)) (fun j hj => ?_) (F.trans (F2.mono (by omega) (by omega)))
          by_cases cj : j = k
          · rw [cj, upd_s]
          · rw [upd_n (fun z => cj (plc_inj (by omega) hk1 z))]
            exact o2 j (by omega)
        | succ e ihe =>
          intro o hc ho mi o1 F
          obtain ⟨⟨x8, x9, x13, jh, jm, x31, x32, c, cj⟩, _⟩ := id mi
          have e1 : ¬ nI n ≤ nI o := nI_ge (by omega) (by omega)
          rw [u_143_25]
          by_cases co : o = k
          · have e2 : nI o = nI k := by rw [co]
            simp only [u_143_27, u_143_27n, u_143_28, u_143_31, u_143_34, u_143_35, u_143_37, u_143_38, u_143_55, u_143_56, u_143_57, u_143_58, u_143_61, pm_O_some, pm_w_nil, pm_w_i, pm_w_l, pm_w_r, pm_w_n, pm_c_n, pm_c_i, pm_c_l, pm_c_r, pm_c_u, Nat.reduceAdd, Nat.reduceLeDiff, true_and, Option.toList_some, Option.toList_none, List.cons_append, List.nil_append, c.g0, if_neg e1, if_pos e2, Int32.add_zero, nI_1]
            have := ihe (o + 1) hc (by omega) mi o1 F
            rw [plc, if_neg (fun z => z.1 co), Nat.add_zero] at this
            exact this
          · have e2 : ¬ nI o = nI k := fun z => co ((nI_eq (by omega) (by omega)).mp z)
            simp only [u_143_27, u_143_27n, u_143_28, u_143_31, u_143_34, u_143_35, u_143_37, u_143_38, u_143_41, u_143_41n, u_143_42, u_143_44, u_143_45, pm_O_some, pm_w_nil, pm_w_i, pm_w_l, pm_w_r, pm_w_n, pm_c_n, pm_c_i, pm_c_l, pm_c_r, pm_c_u, Nat.reduceAdd, Nat.reduceLeDiff, true_and, Option.toList_some, Option.toList_none, List.cons_append, List.nil_append, c.g0, if_neg e1, if_neg e2, c.io]
            refine c_isBefore so mi (by omega) hk1 (fun h2 x mi2 hx F2 => ?_)
            have := ihe (o + 1) h2 (by omega) mi2 ((F2.2.2 (m + 22) (by omega) (by omega)).trans o1) (F.trans F2.fm)
            rcases hx with ⟨rfl, hx⟩ | ⟨rfl, hx⟩
            · simp only [u_143_48, u_143_51, u_143_52, u_143_55, u_143_56, u_143_57, u_143_58, u_143_61, pm_O_some, pm_w_nil, pm_w_i, pm_w_l, pm_w_r, pm_w_n, pm_c_n, pm_c_i, pm_c_l, pm_c_r, pm_c_u, Nat.reduceAdd, Nat.reduceLeDiff, true_and, Option.toList_some, Option.toList_none, List.cons_append, List.nil_append, i10, if_false, nI_1]
              rw [plc, if_pos ⟨co, hx⟩] at this
              exact this
            · simp only [u_143_48, u_143_51, u_143_52, u_143_55, u_143_56, u_143_57, u_143_58, u_143_61, pm_O_some, pm_w_nil, pm_w_i, pm_w_l, pm_w_r, pm_w_n, pm_c_n, pm_c_i, pm_c_l, pm_c_r, pm_c_u, Nat.reduceAdd, Nat.reduceLeDiff, true_and, Option.toList_some, Option.toList_none, List.cons_append, List.nil_append, i00, if_true, Int32.add_zero, nI_1]
              rw [plc, if_neg (fun z => hx z.2), Nat.add_zero] at this
              exact this
      obtain ⟨⟨x8, x9, x13, jh, jm, x31, x32, c, cj⟩, _⟩ := id mi
      simp only [u_143_12, u_143_13, u_143_13n, u_143_14, u_143_17, u_143_20, u_143_21, u_143_22, u_143_23, pm_O_some, pm_w_nil, pm_w_i, pm_w_l, pm_w_r, pm_w_n, pm_c_n, pm_c_i, pm_c_l, pm_c_r, pm_c_u, Nat.reduceAdd, Nat.reduceLeDiff, true_and, Option.toList_some, Option.toList_none, List.cons_append, List.nil_append, c.g0, if_neg e1]
      exact inner n 0 hc (by omega) mi o1 F
  obtain ⟨f, hf⟩ := n1.2.2.2.2.2.2.2.2.2.2.1
  simp only [u_143_10, u_143_11, pm_O_some, pm_w_nil, pm_w_i, pm_w_l, pm_w_r, pm_w_n, pm_c_n, pm_c_i, pm_c_l, pm_c_r, pm_c_u, Nat.reduceAdd, Nat.reduceLeDiff, true_and, Option.toList_some, Option.toList_none, List.cons_append, List.nil_append]
  exact outer n 0 h none none f (by omega) n1 hf (fun j hj => by omega) Frm.rfl'
end INS

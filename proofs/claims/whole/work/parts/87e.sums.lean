/-! THE REFERENCE: sumRule, sumAll. -/
theorem sg_mul {u : Nat} {a : Int} (hu : 0 < u) : sg ((u : Int) * a) = sg a := by
  unfold sg
  rcases Int.lt_trichotomy a 0 with z | z | z
  · have := Int.mul_neg_of_pos_of_neg (show (0 : Int) < u by omega) z
    rw [if_pos this, if_pos z]
  · subst z
    rw [Int.mul_zero]
  · have := Int.mul_pos (show (0 : Int) < u by omega) z
    rw [if_neg (show ¬ (u : Int) * a < 0 by omega), if_neg (show ¬ (u : Int) * a = 0 by omega), if_neg (show ¬ a < 0 by omega), if_neg (show ¬ a = 0 by omega)]
theorem sg_neg {a : Int} : sg (-a) = - sg a := by
  unfold sg
  rcases Int.lt_trichotomy a 0 with z | z | z
  · rw [if_pos z, if_neg (show ¬ -a < 0 by omega), if_neg (show ¬ -a = 0 by omega)]; rfl
  · subst z; rfl
  · rw [if_pos (show -a < 0 by omega), if_neg (show ¬ a < 0 by omega), if_neg (show ¬ a = 0 by omega)]
theorem sg_0 {a : Int} : sg a = 0 ↔ a = 0 := by
  unfold sg
  by_cases c1 : a < 0
  · rw [if_pos c1]
    exact ⟨fun z => absurd z (by decide), fun z => by omega⟩
  · rw [if_neg c1]
    by_cases c2 : a = 0
    · rw [if_pos c2]; exact ⟨fun _ => c2, fun _ => rfl⟩
    · rw [if_neg c2]
      exact ⟨fun z => absurd z (by decide), fun z => absurd z c2⟩
theorem mkR_b {P : Int} {D : Nat} (hD : 0 < D) : (mkRat P D).num.natAbs ≤ P.natAbs ∧ (mkRat P D).den ≤ D := by
  have e1 := Rat.num_mkRat P D
  have e2 := Rat.den_mkRat P D
  constructor
  · rw [e1]
    split
    · simp
    · rw [Int.natAbs_ediv_of_dvd (Int.ofNat_dvd_left.mpr (Nat.gcd_dvd_right _ _))]
      exact Nat.div_le_self _ _
  · rw [e2]
    split
    · omega
    · exact Nat.div_le_self _ _
theorem rq_b {tm : Nat → Tm} {ab : Nat → Int} {be : Nat → Nat} {sd : Int} (hs : sd = 1 ∨ sd = -1) : ∀ {t : Nat}, (∀ i, i < t → tmok (tm i) ∧ (-1000000 ≤ ab (tm i).2.2.2 ∧ ab (tm i).2.2.2 ≤ 1000000) ∧ 1 ≤ be (tm i).2.2.2 ∧ be (tm i).2.2.2 ≤ 1000) → ∃ (P : Int) (D : Nat), 0 < D ∧ D ≤ 1000000 ^ t ∧ P.natAbs ≤ D * (t * 1000000000) ∧ mkRat P D = rq tm ab be sd t
  | 0, _ => ⟨0, 1, by decide, by decide, by decide, rfl⟩
  | t + 1, h => by
    obtain ⟨P, D, h1, h2, h3, h4⟩ := rq_b hs (t := t) (fun i hi => h i (by omega))
    obtain ⟨⟨k1, ⟨k2, k3⟩, ⟨k4, k5⟩, k6⟩, k7, k8⟩ := h t (by omega)
    have hta : (tn (tm t).1 ((tm t).2.1 * ab (tm t).2.2.2) sd).natAbs ≤ 1000000000 := by
      rw [tn_abs hs, Int.natAbs_mul]
      have : ((tm t).2.1 : Int).natAbs * (ab (tm t).2.2.2).natAbs ≤ 999 * 1000000 := Nat.mul_le_mul (by omega) (by omega)
      omega
    have he : (tm t).2.2.1 * be (tm t).2.2.2 ≤ 999 * 1000 := Nat.mul_le_mul k5 k8.2
    have he0 : 0 < (tm t).2.2.1 * be (tm t).2.2.2 := Nat.mul_pos (by omega) (by omega)
    rw [rq, ← h4]
    generalize tn (tm t).1 ((tm t).2.1 * ab (tm t).2.2.2) sd = T at hta
    generalize (tm t).2.2.1 * be (tm t).2.2.2 = E at he he0
    refine ⟨P * E + T * D, D * E, Nat.mul_pos h1 he0, ?_, ?_, (Rat.mkRat_add_mkRat _ _ (by omega) (by omega)).symm⟩
    · rw [Nat.pow_succ]
      exact Nat.mul_le_mul h2 (by omega)
    · have t1 := Int.natAbs_add_le (P * E) (T * D)
      rw [Int.natAbs_mul, Int.natAbs_mul, Int.natAbs_natCast, Int.natAbs_natCast] at t1
      have t2 : P.natAbs * E ≤ D * (t * 1000000000) * E := Nat.mul_le_mul_right _ h3
      have t3 : T.natAbs * D ≤ 1000000000 * (D * E) := Nat.mul_le_mul hta (Nat.le_mul_of_pos_right _ he0)
      have t4 : D * (t * 1000000000) * E = D * E * (t * 1000000000) := Nat.mul_right_comm _ _ _
      have t5 : D * E * ((t + 1) * 1000000000) = D * E * (t * 1000000000) + 1000000000 * (D * E) := by rw [Nat.add_mul, Nat.one_mul, Nat.mul_add, Nat.mul_comm 1000000000]
      omega
/-- a number that the registers bear -/
def sm7 (q : Rat) : Prop := q.num.natAbs < 1000000000 ^ 7 ∧ q.den < 1000000000 ^ 7
theorem sm7.s9 {q : Rat} (h : sm7 q) : q.num.natAbs < 1000000000 ^ 9 ∧ q.den < 1000000000 ^ 9 := by
  have l79 : 1000000000 ^ 7 ≤ 1000000000 ^ 9 := by decide +kernel
  exact ⟨Nat.lt_of_lt_of_le h.1 l79, Nat.lt_of_lt_of_le h.2 l79⟩
theorem rq_s {tm : Nat → Tm} {ab : Nat → Int} {be : Nat → Nat} {sd : Int} {t : Nat} (hs : sd = 1 ∨ sd = -1) (ht : t ≤ 6) (h : ∀ i, i < t → tmok (tm i) ∧ (-1000000 ≤ ab (tm i).2.2.2 ∧ ab (tm i).2.2.2 ≤ 1000000) ∧ 1 ≤ be (tm i).2.2.2 ∧ be (tm i).2.2.2 ≤ 1000) : sm7 (rq tm ab be sd t) := by
  obtain ⟨P, D, h1, h2, h3, h4⟩ := rq_b hs h
  rw [← h4]
  obtain ⟨k1, k2⟩ := mkR_b (P := P) h1
  have l1 : (1000000 : Nat) ^ t ≤ 1000000 ^ 6 := Nat.pow_le_pow_right (by decide) ht
  have l2 : (1000000 : Nat) ^ 6 * (6 * 1000000000) < 1000000000 ^ 7 := by decide +kernel
  have l3 : (1000000 : Nat) ^ 6 < 1000000000 ^ 7 := by decide +kernel
  have l4 : D * (t * 1000000000) ≤ 1000000 ^ 6 * (6 * 1000000000) := Nat.mul_le_mul (by omega) (Nat.mul_le_mul_right _ ht)
  exact ⟨by omega, by omega⟩
section SUS
variable {B : Nat} {X : pm_X} {h h' h2 : pm_H} {Q : Option Value → pm_H → Prop} {m lo hi n ln nr nd nl i k a r : Nat} {bs : Nat → Bg} {tx sz lm ll : Nat → Nat} {tm : Nat → Nat → Tm} {dy : Nat → Int} {jk : Option (Nat × Nat)} {R : Nat → Rg} {fl : Nat → Int64} {fu fs fw : Nat → Int32}
theorem NS.sgn (n1 : ∀ r, r < 8 → RG fl fu fs fw r (R r)) (hr : r < 8) (s : Int32) : ∀ j, j < 8 → RG fl fu (upd fs r s) fw j (ups R r (s, (R r).2.1, (R r).2.2) j) := by
  obtain ⟨u, hv, hu⟩ := (n1 r hr).rv
  have t := NS.dig n1 hr (s := s) hv
  rw [fq_self, ← hu, upd_self] at t
  exact t
theorem bs_ok (so : SO n bs ln tx nr sz tm nd dy nl lm ll jk) (hk : k < nr) (hi : i < n) (ha : a < 3) : ∀ t, t < sz k → tmok (tm k t) ∧ (-1000000 ≤ (bs i).2.2.2.2.1 (tm k t).2.2.2 a ∧ (bs i).2.2.2.2.1 (tm k t).2.2.2 a ≤ 1000000) ∧ 1 ≤ (bs i).2.2.2.2.2.1 (tm k t).2.2.2 a ∧ (bs i).2.2.2.2.2.1 (tm k t).2.2.2 a ≤ 1000 := by
  intro t ht
  have h1 := (so.2.2.1.2 k hk).2.2 t ht
  have h2 := (so.1.2 i hi).2 (tm k t).2.2.2 a h1.2.2.2 ha
  exact ⟨h1, h2.1, h2.2⟩
theorem rv_s (so : SO n bs ln tx nr sz tm nd dy nl lm ll jk) (hk : k < nr) (hi : i < n) (ha : a < 3) {sd : Int} (hs : sd = 1 ∨ sd = -1) {t : Nat} (ht : t ≤ sz k) : sm7 (rq (tm k) (fun j => (bs i).2.2.2.2.1 j a) (fun j => (bs i).2.2.2.2.2.1 j a) sd t) := by
  have h6 := (so.2.2.1.2 k hk).2.1
  exact rq_s hs (by omega) (fun j hj => bs_ok so hk hi ha j (by omega))
set_option maxHeartbeats 1000000 in
theorem c_sumRule {gr : Int32} {sd : Int} (so : SO n bs ln tx nr sz tm nd dy nl lm ll jk) (n1 : MI B h m n bs ln tx nr sz tm nd dy nl lm ll jk) (ns : NS B h m R) (hk : k < nr) (hi : i < n) (ha : a < 3) (hgr : (gr = 0 ∧ sd = -1) ∨ (gr = 1 ∧ sd = 1))
    (hQ : ∀ h' R', NS B h' m R' → rgq (R' 2) (rv (bs i) sz tm a sd k) → (∀ j, ¬ (2 ≤ j ∧ j ≤ 5) → R' j = R j) → Frm B h h' (m + 18) (m + 22) → Q none h') :
    PW B X 110 0 [some (.ref m), some (.int (nI k)), some (.int (nI i)), some (.int (nI a)), some (.int gr), none, none, none, none] [] h Q := by
  have hn := so.1.1
  have hnr := so.2.2.1.1
  have h6 := (so.2.2.1.2 k hk).2.1
  have hsd : sd = 1 ∨ sd = -1 := by
    rcases hgr with z | z
    · exact Or.inr z.2
    · exact Or.inl z.2
  obtain ⟨⟨x8, x9, x13, jh, jm, x31, x32, c, cj⟩, a2, a3, ⟨fa, fb, b1, b2, b3⟩, a5, ⟨fn, ft, d1, d2, d3⟩, n2⟩ := n1
  obtain ⟨d3a, d3b⟩ := d3 k hk
  have loop : ∀ d t hc R' w6 w7 w8, t + d = sz k → NS B hc m R' → rgq (R' 2) (rq (tm k) (fun j => (bs i).2.2.2.2.1 j a) (fun j => (bs i).2.2.2.2.2.1 j a) sd t) → (∀ j, ¬ (2 ≤ j ∧ j ≤ 5) → R' j = R j) → Frm B h hc (m + 18) (m + 22) → PW B X 110 8 [some (.ref m), some (.int (nI k)), some (.int (nI i)), some (.int (nI a)), some (.int gr), some (.int (nI t)), w6, w7, w8] [] hc Q := by
    intro d
    induction d with
    | zero =>
      intro t hc R' w6 w7 w8 ht m1 i1 i2 F
      have c' := c.frm F (by omega)
      have d1' := (F.2.2 (m + 7) (by omega)).trans d1
      obtain rfl : t = sz k := by omega
      have e1 : nI (sz k) ≤ nI (sz k) := nI_le (Nat.le_refl _) (by omega)
      simp only [u_110_8, u_110_10, u_110_10n, u_110_11, u_110_14, u_110_15, u_110_16, u_110_187, pm_O_some, pm_w_nil, pm_w_i, pm_w_l, pm_w_r, pm_w_n, pm_c_n, pm_c_i, pm_c_l, pm_c_r, pm_c_u, Nat.reduceAdd, Nat.reduceLeDiff, true_and, Option.toList_some, Option.toList_none, List.cons_append, List.nil_append, c'.g11, d1', ld_i (t := 0) (ix_8 (show k < 8 by omega)) rfl, nI_clamp (show k < 2 ^ 31 by omega), d3a, if_pos e1]
      exact hQ hc R' m1 i1 i2 F
    | succ d ih =>
      intro t hc R' w6 w7 w8 ht m1 i1 i2 F
      have ht1 : t < sz k := by omega
      have c' := c.frm F (by omega)
      have d1' := (F.2.2 (m + 7) (by omega)).trans d1
      have d2' := (F.2.2 (m + 8) (by omega)).trans d2
      have b1' := (F.2.2 (m + 4) (by omega)).trans b1
      obtain ⟨t1, t2, t3, t4⟩ := d3b t ht1
      obtain ⟨⟨g1, ⟨g2, g3⟩, ⟨g4, g5⟩, g6⟩, g7, g8⟩ := bs_ok so hk hi ha t ht1
      have hsum : rq (tm k) (fun j => (bs i).2.2.2.2.1 j a) (fun j => (bs i).2.2.2.2.2.1 j a) sd (t + 1) = rq (tm k) (fun j => (bs i).2.2.2.2.1 j a) (fun j => (bs i).2.2.2.2.2.1 j a) sd t + mkRat (tn (tm k t).1 ((tm k t).2.1 * (bs i).2.2.2.2.1 (tm k t).2.2.2 a) sd) ((tm k t).2.2.1 * (bs i).2.2.2.2.2.1 (tm k t).2.2.2 a) := rfl
      have hs1 := rv_s so hk hi ha hsd (t := t) (by omega)
      obtain ⟨v1, v2⟩ := b3 i (tm k t).2.2.2 a (by omega) g6 ha
      rw [df_in hi] at v1 v2
      rw [← v1] at hsum g7
      generalize hbe : (bs i).2.2.2.2.2.1 (tm k t).2.2.2 a = be at *
      generalize (tm k t).2.2.2 = kd at *
      generalize (tm k t).2.2.1 = lw at *
      generalize (tm k t).2.1 = up at *
      generalize (tm k t).1 = sgc at *
      have e1 : ¬ nI (sz k) ≤ nI t := nI_ge ht1 (by omega)
      have x1 : (4 : Int32) * (6 * nI k + nI t) = nI (4 * (6 * k + t)) := by
        rw [show (6 : Int32) = nI 6 from rfl, show (4 : Int32) = nI 4 from rfl, nI_mul, nI_add, nI_mul]
      have x2 : nI (4 * (6 * k + t)) + 3 = nI (4 * (6 * k + t) + 3) := nI_add _ 3
      have x3 : nI (4 * (6 * k + t)) + 2 = nI (4 * (6 * k + t) + 2) := nI_add _ 2
      have x4 : nI (4 * (6 * k + t)) + 1 = nI (4 * (6 * k + t) + 1) := nI_add _ 1
      have x5 : (3 : Int32) * (10 * nI kd + nI i) + nI a = nI (3 * (10 * kd + i) + a) := by
        rw [show (10 : Int32) = nI 10 from rfl, show (3 : Int32) = nI 3 from rfl, nI_mul, nI_add, nI_mul, nI_add]
      have hd : 4 * (6 * k + t) + 3 < 192 := by omega
      have hv : 3 * (10 * kd + i) + a < 240 := by omega
      generalize hD : 4 * (6 * k + t) = D at *
      generalize hV : 3 * (10 * kd + i) + a = V at *
      rw [u_110_8]
      simp only [u_110_10, u_110_10n, u_110_11, u_110_14, u_110_15, u_110_16, u_110_19, u_110_20, u_110_22, u_110_23, u_110_24, u_110_26, u_110_27, u_110_28, u_110_30, u_110_31, u_110_33, u_110_33n, u_110_34, u_110_37, u_110_39, u_110_40, u_110_41, u_110_42, u_110_43, u_110_44, u_110_45, u_110_46, u_110_47, u_110_48, u_110_50, u_110_50n, u_110_51, u_110_52, u_110_52n, u_110_53, u_110_56, u_110_58, u_110_59, pm_O_some, pm_w_nil, pm_w_i, pm_w_l, pm_w_r, pm_w_n, pm_c_n, pm_c_i, pm_c_l, pm_c_r, pm_c_u, Nat.reduceAdd, Nat.reduceLeDiff, true_and, Option.toList_some, Option.toList_none, List.cons_append, List.nil_append, c'.io, c'.g11, c'.g12, c'.g4, d1', d2', b1', ld_i (t := 0) (ix_8 (show k < 8 by omega)) rfl, nI_clamp (show k < 2 ^ 31 by omega), d3a, if_neg e1, x1, x2, ld_i (t := 0) (ix_192 hd) rfl, nI_clamp (show D + 3 < 2 ^ 31 by omega), t4, x5, ld_i (t := 0) (ix_240 hv) rfl, nI_clamp (show V < 2 ^ 31 by omega)]
      refine c_set (r := 3) m1 (by omega) (by omega) (fun h1 m2 F1 => ?_)
      have G1 := F.trans F1
      have c1 := c.frm G1 (by omega)
      have d21 := (G1.2.2 (m + 8) (by omega)).trans d2
      simp only [u_110_62, u_110_62n, u_110_63, u_110_64, u_110_64n, u_110_65, u_110_68, u_110_70, u_110_71, u_110_72, u_110_73, pm_O_some, pm_w_nil, pm_w_i, pm_w_l, pm_w_r, pm_w_n, pm_c_n, pm_c_i, pm_c_l, pm_c_r, pm_c_u, Nat.reduceAdd, Nat.reduceLeDiff, true_and, Option.toList_some, Option.toList_none, List.cons_append, List.nil_append, c1.io, c1.g12, d21, x4, ld_i (t := 0) (ix_192 (show D + 1 < 192 by omega)) rfl, nI_clamp (show D + 1 < 2 ^ 31 by omega), t2]
      have l1 : (fa V).toInt.natAbs * up ≤ 1000000 * 999 := Nat.mul_le_mul (by omega) (by omega)
      have l40 : 1000000 * 999 < 1000000000 ^ 40 := by decide +kernel
      have l24 : 1000 * 1000 < 1000000000 ^ 24 := by decide +kernel
      refine c_times (r := 3) m2 (by omega) (by omega) (by omega) ?_ (fun h2 m3 F2 => ?_)
      · rw [ups_s]
        show (fa V).toInt.natAbs * up < _
        omega
      have G2 := G1.trans F2
      have c2 := c.frm G2 (by omega)
      have b22 := (G2.2.2 (m + 5) (by omega)).trans b2
      simp only [u_110_76, u_110_76n, u_110_77, u_110_78, u_110_78n, u_110_79, u_110_82, u_110_84, u_110_85, pm_O_some, pm_w_nil, pm_w_i, pm_w_l, pm_w_r, pm_w_n, pm_c_n, pm_c_i, pm_c_l, pm_c_r, pm_c_u, Nat.reduceAdd, Nat.reduceLeDiff, true_and, Option.toList_some, Option.toList_none, List.cons_append, List.nil_append, c2.io, c2.g5, b22, ld_i (t := 0) (ix_240 hv) rfl, nI_clamp (show V < 2 ^ 31 by omega), v2]
      refine c_under (r := 3) m3 (by omega) (by omega) (by omega) ?_ (fun h3 R3 m4 u1 u2 u3 u4 F3 => ?_)
      · rw [ups_s, ups_s]
        show dp (fun _ => 0) 168 * be < _
        rw [dp_0]
        omega
      rw [ups_s, ups_s] at u1 u2 u3
      replace u1 : (R3 3).1 = sg (fa V).toInt := u1
      replace u2 : (R3 3).2.1 = (fa V).toInt.natAbs * up := u2
      replace u3 : dp (R3 3).2.2 168 = be := by
        rw [u3]
        show dp (fun _ => 0) 168 * be = be
        rw [dp_0, Nat.one_mul]
      have G3 := G2.trans F3
      have c3 := c.frm G3 (by omega)
      have d23 := (G3.2.2 (m + 8) (by omega)).trans d2
      simp only [u_110_88, u_110_88n, u_110_89, u_110_90, u_110_90n, u_110_91, u_110_94, u_110_96, u_110_97, u_110_98, u_110_99, pm_O_some, pm_w_nil, pm_w_i, pm_w_l, pm_w_r, pm_w_n, pm_c_n, pm_c_i, pm_c_l, pm_c_r, pm_c_u, Nat.reduceAdd, Nat.reduceLeDiff, true_and, Option.toList_some, Option.toList_none, List.cons_append, List.nil_append, c3.io, c3.g12, d23, x3, ld_i (t := 0) (ix_192 (show D + 2 < 192 by omega)) rfl, nI_clamp (show D + 2 < 2 ^ 31 by omega), t3]
      have l2 : be * lw ≤ 1000 * 999 := Nat.mul_le_mul (by omega) (by omega)
      refine c_under (r := 3) m4 (by omega) (by omega) (by omega) (by rw [u3]; omega) (fun h4 R4 m5 w1 w2 w3 w4 F4 => ?_)
      rw [u1] at w1
      rw [u2] at w2
      rw [u3] at w3
      have G4 := G3.trans F4
      simp only [u_110_102, u_110_102n, u_110_103, u_110_104, pm_O_some, pm_w_nil, pm_w_i, pm_w_l, pm_w_r, pm_w_n, pm_c_n, pm_c_i, pm_c_l, pm_c_r, pm_c_u, Nat.reduceAdd, Nat.reduceLeDiff, true_and, Option.toList_some, Option.toList_none, List.cons_append, List.nil_append, m5.io]
      refine c_reduce (r := 3) m5 (by omega) (fun h5 R5 m6 y1 y2 y3 y4 F5 => ?_)
      rw [w1] at y1
      rw [w2, w3] at y2
      have G5 := G4.trans F5
      have c5 := c.frm G5 (by omega)
      have d25 := (G5.2.2 (m + 8) (by omega)).trans d2
      obtain ⟨fl, fu, fs, fw, z1, z2⟩ := id m6
      have aa3 := z1.2.2.2.2.1
      have f3 : fs 3 = sg (fa V).toInt := by
        obtain ⟨_, _, _, _, _, _, _, a7, _⟩ := z2 3 (by omega)
        rw [a7, y1]
      -- the sign, and on
      have fin : ∀ s, s = sg (tn sgc (up * (fa V).toInt) sd) → PW B X 110 175 [some (.ref m), some (.int (nI k)), some (.int (nI i)), some (.int (nI a)), some (.int gr), some (.int (nI t)), some (.int (nI D)), some (.int (nI V)), some (.int (sg (fa V).toInt))] [] (pm_set B h5 (m + 20) (.inl (0, 8, .inl (upd fs 3 s)))) Q := by
        intro s hs
        obtain ⟨k1, k2⟩ := z1.sets (upd fs 3 s)
        have m7 : NS B _ m (ups R5 3 (s, (R5 3).2.1, (R5 3).2.2)) := ⟨_, _, _, _, k1, NS.sgn z2 (by omega) s⟩
        simp only [u_110_175, u_110_175n, u_110_176, u_110_177, u_110_178, pm_O_some, pm_w_nil, pm_w_i, pm_w_l, pm_w_r, pm_w_n, pm_c_n, pm_c_i, pm_c_l, pm_c_r, pm_c_u, Nat.reduceAdd, Nat.reduceLeDiff, true_and, Option.toList_some, Option.toList_none, List.cons_append, List.nil_append, m7.io]
        have qq := rat_of (D := tn sgc (up * (fa V).toInt) sd) (U := (R5 3).2.1) (L := dp (R5 3).2.2 168) (R := lw * be) (Nat.mul_pos (by omega) (by omega)) (dp_pos (Nat.le_refl _)) y3 (by
          rw [tn_abs hsd, Int.natAbs_mul, Int.natAbs_natCast, Nat.mul_comm up, Nat.mul_comm lw]
          exact y2)
        have hb3 : sm7 (mkRat (tn sgc (up * (fa V).toInt) sd) (lw * be)) := by
          obtain ⟨k3, k4⟩ := mkR_b (P := tn sgc (up * (fa V).toInt) sd) (D := lw * be) (Nat.mul_pos (by omega) (by omega))
          rw [tn_abs hsd, Int.natAbs_mul, Int.natAbs_natCast, Nat.mul_comm up] at k3
          rw [Nat.mul_comm lw] at k4 k3 ⊢
          have l7 : 1000000 * 999 < 1000000000 ^ 7 := by decide +kernel
          have l8 : 1000 * 999 < 1000000000 ^ 7 := by decide +kernel
          exact ⟨by omega, by omega⟩
        refine c_add m7 (q2 := rq (tm k) (fun j => (bs i).2.2.2.2.1 j a) (fun j => (bs i).2.2.2.2.2.1 j a) sd t) (q3 := mkRat (tn sgc (up * (fa V).toInt) sd) (lw * be)) ?_ ?_ hs1.s9 hb3.s9 (fun h6 R6 m8 p1 p2 F6 => ?_)
        · rw [ups_n (by omega), y4 2 (by omega), w4 2 (by omega), u4 2 (by omega), ups_n (by omega), ups_n (by omega)]
          exact i1
        · rw [ups_s]
          exact ⟨by rw [qq.2.2]; exact hs, qq.1.symm, qq.2.1.symm⟩
        · simp only [u_110_181, u_110_184, pm_O_some, pm_w_nil, pm_w_i, pm_w_l, pm_w_r, pm_w_n, pm_c_n, pm_c_i, pm_c_l, pm_c_r, pm_c_u, Nat.reduceAdd, Nat.reduceLeDiff, true_and, Option.toList_some, Option.toList_none, List.cons_append, List.nil_append, nI_1]
          refine ih (t + 1) h6 R6 _ _ _ (by omega) m8 (by rw [hsum]; exact p1) (fun j hj => ?_) ((G5.trans k2).trans F6)
          rw [p2 j (by omega) (by omega) (by omega), ups_n (by omega), y4 j (by omega), w4 j (by omega), u4 j (by omega), ups_n (by omega), ups_n (by omega)]
          exact i2 j hj
      have st8 : ∀ {s : Int32}, pm_sti 0 (some (.inl (0, 8, .inl fs))) 3 s = some (.inl (0, 8, .inl (upd fs 3 s))) := fun {s} => st_i (t := 0) (i := 3) (ix_8 (show 3 < 8 by omega)) rfl
      have sgu : sg ((up : Int) * (fa V).toInt) = sg (fa V).toInt := sg_mul (by omega)
      have r43 : (nI sgc = 43) ↔ sgc = 43 := nI_eq (b := 43) (by omega) (by decide)
      have r45 : (nI sgc = 45) ↔ sgc = 45 := nI_eq (b := 45) (by omega) (by decide)
      rcases g1 with z | z | z
      · have q1 : ¬ nI sgc = 43 := mt r43.mp (by omega)
        have q2 : ¬ nI sgc = 45 := mt r45.mp (by omega)
        by_cases q3 : sg (fa V).toInt = 0
        · simp only [u_110_107, u_110_107n, u_110_108, u_110_111, u_110_112, u_110_113, u_110_115, u_110_115n, u_110_116, u_110_119, u_110_120, u_110_120n, u_110_121, u_110_124, u_110_126, u_110_127, u_110_129, u_110_132, u_110_134, u_110_137, u_110_137n, u_110_138, u_110_141, u_110_143, u_110_144, u_110_146, u_110_149, u_110_151, u_110_152, u_110_155, u_110_157, u_110_160, u_110_161, u_110_164, u_110_166, u_110_169, u_110_170, u_110_173, u_110_174, pm_O_some, pm_w_nil, pm_w_i, pm_w_l, pm_w_r, pm_w_n, pm_c_n, pm_c_i, pm_c_l, pm_c_r, pm_c_u, Nat.reduceAdd, Nat.reduceLeDiff, true_and, Option.toList_some, Option.toList_none, List.cons_append, List.nil_append, z1.f29, aa3, ld8 (k := 3) (x := 3) (by omega) rfl, f3, c5.g12, d25, ld_i (t := 0) (ix_192 (show D < 192 by omega)) rfl, nI_clamp (show D < 2 ^ 31 by omega), t1, q1, q2, q3, not_false_eq_true, not_true, if_true, if_false, st8]
          have := fin 0 (by
            rw [z]
            show 0 = sg (sd * _)
            have := sg_0.mp q3
            rw [this, Int.mul_zero]
            rcases hsd with rfl | rfl <;> rfl)
          rw [q3] at this
          exact this
        · have q4 : ∀ s, s = (if gr = 0 then (-1 : Int32) else 1) → s = sg (tn sgc (up * (fa V).toInt) sd) := by
            intro s hs
            rw [hs, z]
            show _ = sg (sd * (((up : Int) * (fa V).toInt).natAbs : Int))
            have hne : ¬ (up : Int) * (fa V).toInt = 0 := by
              intro y
              rw [← sg_0, sgu] at y
              exact q3 y
            rcases hgr with ⟨rfl, rfl⟩ | ⟨rfl, rfl⟩
            · rw [if_pos rfl]
              unfold sg
              rw [if_pos (by omega)]
            · rw [if_neg (by decide)]
              unfold sg
              rw [if_neg (by omega), if_neg (by omega)]
          rcases hgr with ⟨zg, zs⟩ | ⟨zg, zs⟩
          · simp only [u_110_107, u_110_107n, u_110_108, u_110_111, u_110_112, u_110_113, u_110_115, u_110_115n, u_110_116, u_110_119, u_110_120, u_110_120n, u_110_121, u_110_124, u_110_126, u_110_127, u_110_129, u_110_132, u_110_134, u_110_137, u_110_137n, u_110_138, u_110_141, u_110_143, u_110_144, u_110_146, u_110_149, u_110_151, u_110_152, u_110_155, u_110_157, u_110_160, u_110_161, u_110_164, u_110_166, u_110_169, u_110_170, u_110_173, u_110_174, pm_O_some, pm_w_nil, pm_w_i, pm_w_l, pm_w_r, pm_w_n, pm_c_n, pm_c_i, pm_c_l, pm_c_r, pm_c_u, Nat.reduceAdd, Nat.reduceLeDiff, true_and, Option.toList_some, Option.toList_none, List.cons_append, List.nil_append, z1.f29, aa3, ld8 (k := 3) (x := 3) (by omega) rfl, f3, c5.g12, d25, ld_i (t := 0) (ix_192 (show D < 192 by omega)) rfl, nI_clamp (show D < 2 ^ 31 by omega), t1, q1, q2, q3, not_false_eq_true, if_true, st8, zg]
            rw [zg] at fin
            exact fin (-1) (q4 _ (by rw [if_pos zg]))
          · simp only [u_110_107, u_110_107n, u_110_108, u_110_111, u_110_112, u_110_113, u_110_115, u_110_115n, u_110_116, u_110_119, u_110_120, u_110_120n, u_110_121, u_110_124, u_110_126, u_110_127, u_110_129, u_110_132, u_110_134, u_110_137, u_110_137n, u_110_138, u_110_141, u_110_143, u_110_144, u_110_146, u_110_149, u_110_151, u_110_152, u_110_155, u_110_157, u_110_160, u_110_161, u_110_164, u_110_166, u_110_169, u_110_170, u_110_173, u_110_174, pm_O_some, pm_w_nil, pm_w_i, pm_w_l, pm_w_r, pm_w_n, pm_c_n, pm_c_i, pm_c_l, pm_c_r, pm_c_u, Nat.reduceAdd, Nat.reduceLeDiff, true_and, Option.toList_some, Option.toList_none, List.cons_append, List.nil_append, z1.f29, aa3, ld8 (k := 3) (x := 3) (by omega) rfl, f3, c5.g12, d25, ld_i (t := 0) (ix_192 (show D < 192 by omega)) rfl, nI_clamp (show D < 2 ^ 31 by omega), t1, q1, q2, q3, not_false_eq_true, if_true, st8, zg, i10, if_false]
            rw [zg] at fin
            exact fin 1 (q4 _ (by rw [zg]; rfl))
      · have q1 : nI sgc = 43 := r43.mpr z
        simp only [u_110_107, u_110_107n, u_110_108, u_110_111, u_110_112, u_110_113, u_110_115, u_110_115n, u_110_116, u_110_119, u_110_120, u_110_120n, u_110_121, u_110_124, u_110_126, u_110_127, u_110_129, u_110_132, u_110_134, u_110_174, pm_O_some, pm_w_nil, pm_w_i, pm_w_l, pm_w_r, pm_w_n, pm_c_n, pm_c_i, pm_c_l, pm_c_r, pm_c_u, Nat.reduceAdd, Nat.reduceLeDiff, true_and, Option.toList_some, Option.toList_none, List.cons_append, List.nil_append, z1.f29, aa3, ld8 (k := 3) (x := 3) (by omega) rfl, f3, c5.g12, d25, ld_i (t := 0) (ix_192 (show D < 192 by omega)) rfl, nI_clamp (show D < 2 ^ 31 by omega), t1, q1, not_true, if_false, st8]
        refine fin _ ?_
        rw [z]
        exact sgu.symm
      · have q1 : ¬ nI sgc = 43 := mt r43.mp (by omega)
        have q2 : nI sgc = 45 := r45.mpr z
        simp only [u_110_107, u_110_107n, u_110_108, u_110_111, u_110_112, u_110_113, u_110_115, u_110_115n, u_110_116, u_110_119, u_110_120, u_110_120n, u_110_121, u_110_124, u_110_126, u_110_127, u_110_129, u_110_132, u_110_134, u_110_137, u_110_137n, u_110_138, u_110_141, u_110_143, u_110_144, u_110_146, u_110_149, u_110_151, u_110_152, u_110_174, pm_O_some, pm_w_nil, pm_w_i, pm_w_l, pm_w_r, pm_w_n, pm_c_n, pm_c_i, pm_c_l, pm_c_r, pm_c_u, Nat.reduceAdd, Nat.reduceLeDiff, true_and, Option.toList_some, Option.toList_none, List.cons_append, List.nil_append, z1.f29, aa3, ld8 (k := 3) (x := 3) (by omega) rfl, f3, c5.g12, d25, ld_i (t := 0) (ix_192 (show D < 192 by omega)) rfl, nI_clamp (show D < 2 ^ 31 by omega), t1, q1, not_false_eq_true, if_true]
        simp only [q2, not_true, if_false, st8, pm_O_some, pm_w_nil, pm_w_i, pm_w_l, pm_w_r, pm_w_n, pm_c_n, pm_c_i, pm_c_l, pm_c_r, pm_c_u, Nat.reduceAdd, Nat.reduceLeDiff, true_and, Option.toList_some, Option.toList_none, List.cons_append, List.nil_append]
        refine fin _ ?_
        rw [z]
        show -sg _ = sg (-((up : Int) * (fa V).toInt))
        rw [sg_neg, sgu]
  simp only [u_110_0, u_110_0n, u_110_1, u_110_2, pm_O_some, pm_w_nil, pm_w_i, pm_w_l, pm_w_r, pm_w_n, pm_c_n, pm_c_i, pm_c_l, pm_c_r, pm_c_u, Nat.reduceAdd, Nat.reduceLeDiff, true_and, Option.toList_some, Option.toList_none, List.cons_append, List.nil_append, ns.io]
  refine c_zero (r := 2) ns (by omega) (fun h1 m2 F1 => ?_)
  simp only [u_110_5, u_110_6, pm_O_some, pm_w_nil, pm_w_i, pm_w_l, pm_w_r, pm_w_n, pm_c_n, pm_c_i, pm_c_l, pm_c_r, pm_c_u, Nat.reduceAdd, Nat.reduceLeDiff, true_and, Option.toList_some, Option.toList_none, List.cons_append, List.nil_append]
  refine loop (sz k) 0 h1 _ none none none (by omega) m2 ?_ (fun j hj => ups_n (by omega)) F1
  rw [ups_s]
  exact ⟨rfl, rfl, dp_0⟩
end SUS

/-! inspect. -/
abbrev WW (bs : Nat → Bg) (nd : Nat) (dy : Nat → Int) : Nat → Int := fun j => fw (bs j) (wy dy nd)
abbrev QQ (bs : Nat → Bg) (nr : Nat) (sz : Nat → Nat) (tm : Nat → Nat → Tm) : Nat → Rat := fun j => (GM (bs j) nr sz tm 2).1
def LD (B : Nat) (h : pm_H) (n : Nat) (q : Nat → Rat) : Prop := ∀ j, j < n → FracQ B h (B + 95 + 8 * j + 3) (q j) ∧ sml (q j)
theorem lI_lt {a b : Int} (h1 : -2 ^ 62 < a ∧ a < 2 ^ 62) (h2 : -2 ^ 62 < b ∧ b < 2 ^ 62) : lI a < lI b ↔ a < b := by
  rw [Int64.lt_iff_toInt_lt, lI_T (by omega) (by omega), lI_T (by omega) (by omega)]
theorem lI_eq {a b : Int} (h1 : -2 ^ 62 < a ∧ a < 2 ^ 62) (h2 : -2 ^ 62 < b ∧ b < 2 ^ 62) : lI a = lI b ↔ a = b := by
  rw [← Int64.toInt_inj, lI_T (by omega) (by omega), lI_T (by omega) (by omega)]
section IP
variable {B : Nat} {X : pm_X} {h h' h2 : pm_H} {Q : Option Value → pm_H → Prop} {e lo hi n ln nr nd nl i a k j b : Nat} {bs : Nat → Bg} {tx sz lm ll : Nat → Nat} {tm : Nat → Nat → Tm} {dy : Nat → Int} {jk : Option (Nat × Nat)} {g : Bg} {x y z ax w wh pt : Int32} {q : Nat → Rat} {tt : Int} {lq gq : Rat} {lc gc : Int32}
theorem LD.frm (n1 : LD B h n q) (F : Frm B h h' lo hi) (d : hi ≤ B + 95) : LD B h' n q := fun j hj => ⟨(n1 j hj).1.frm F (by omega), (n1 j hj).2⟩
theorem c_before (n1 : CC B h n bs ln tx nr sz tm nd dy nl lm ll jk) (n3 : LD B h n q) (ha : a < n) (hb : b < n)
    (ht : bfr (WW bs nd dy) q a b → ∀ h', CC B h' n bs ln tx nr sz tm nd dy nl lm ll jk → LD B h' n q → Frm B h h' (B + 17) (B + 48) → Q (some (.int 1)) h')
    (hf : ¬ bfr (WW bs nd dy) q a b → ∀ h', CC B h' n bs ln tx nr sz tm nd dy nl lm ll jk → LD B h' n q → Frm B h h' (B + 17) (B + 48) → Q (some (.int 0)) h') :
    PW B X 89 0 [some (.ref B), some (.int (nI a)), some (.int (nI b)), none, none, none, none] [] h Q := by
  have cf := n1.1.cf
  have hn := cf.1
  obtain ⟨rs, rs2, lw, jh, jm, ra, a1⟩ := n1.ob
  have hwl := n1.wyl
  obtain ⟨p0, p1⟩ := n1.bev ha
  obtain ⟨r0, r1⟩ := n1.bev hb
  have pb := fw_b (g := bs a) (w := (wy dy nd : Int)) p1.2.2.2.2.1 (by omega)
  have rb := fw_b (g := bs b) (w := (wy dy nd : Int)) r1.2.2.2.2.1 (by omega)
  have elt := lI_lt (a := fw (bs a) (wy dy nd)) (b := fw (bs b) (wy dy nd)) (by omega) (by omega)
  have eeq := lI_eq (a := fw (bs a) (wy dy nd)) (b := fw (bs b) (wy dy nd)) (by omega) (by omega)
  have hW : ∀ j, WW bs nd dy j = fw (bs j) (wy dy nd) := fun j => rfl
  simp only [u_89_0, u_89_0n, u_89_1, u_89_2, u_89_5, u_89_5n, u_89_6, u_89_6n, u_89_7, u_89_8, u_89_11, u_89_11n, u_89_13, u_89_13n, u_89_14, u_89_14n, u_89_17, u_89_17n, u_89_19, u_89_19n, u_89_22, u_89_23, u_89_23_0, u_89_23_1, u_89_24, u_89_24n, u_89_25, u_89_25n, u_89_26, u_89_29, u_89_32, u_89_32n, u_89_34, u_89_34n, u_89_35, u_89_38, u_89_41, pm_O_some, pm_w_nil, pm_w_i, pm_w_l, pm_w_r, pm_w_n, pm_c_n, pm_c_i, pm_c_l, pm_c_r, pm_c_u, Nat.reduceAdd, Nat.reduceLeDiff, true_and, Option.toList_some, Option.toList_none, List.cons_append, List.nil_append, cf.io, s_find_t cf ha, s_find_t cf hb, a1, gf_0_12, pm_io_of p0.1, pm_io_of r0.1, ← lI_N, c_fway p0, c_fway r0, s_lcompare]
  generalize hA : fw (bs a) (wy dy nd) = A at elt eeq
  generalize hB : fw (bs b) (wy dy nd) = C at elt eeq
  by_cases c1 : A < C
  · have z1 : ¬ (-1 : Int32) = 0 := by decide
    have z2 : (-1 : Int32) ≤ 0 := by decide
    simp only [u_89_44, u_89_46, u_89_48, u_89_51, u_89_53, u_89_56, u_89_57, u_89_60, u_89_61, u_89_61_0, u_89_61_1, pm_O_some, pm_w_nil, pm_w_i, pm_w_l, pm_w_r, pm_w_n, pm_c_n, pm_c_i, pm_c_l, pm_c_r, pm_c_u, Nat.reduceAdd, Nat.reduceLeDiff, true_and, Option.toList_some, Option.toList_none, List.cons_append, List.nil_append, if_pos (elt.mpr c1), if_neg z1, if_pos z2]
    refine hf ?_ h n1 n3 Frm.rfl'
    rintro (z | ⟨z, _⟩)
    · rw [hW, hW, hA, hB] at z
      omega
    · rw [hW, hW, hA, hB] at z
      omega
  · by_cases c2 : A = C
    · simp only [u_89_44, u_89_46, u_89_48, pm_O_some, pm_w_nil, pm_w_i, pm_w_l, pm_w_r, pm_w_n, pm_c_n, pm_c_i, pm_c_l, pm_c_r, pm_c_u, Nat.reduceAdd, Nat.reduceLeDiff, true_and, Option.toList_some, Option.toList_none, List.cons_append, List.nil_append, if_neg (mt elt.mp c1), if_pos (eeq.mpr c2), i00, if_true]
      have p2 := p0.1
      have r2 := r0.1
      simp only [u_89_62, u_89_62n, u_89_63, u_89_66, u_89_66n, u_89_67, u_89_70, u_89_70n, u_89_72, u_89_75, pm_O_some, pm_w_nil, pm_w_i, pm_w_l, pm_w_r, pm_w_n, pm_c_n, pm_c_i, pm_c_l, pm_c_r, pm_c_u, Nat.reduceAdd, Nat.reduceLeDiff, true_and, Option.toList_some, Option.toList_none, List.cons_append, List.nil_append, a1, gf_0_6, p2, r2, gf_9_9, n1.sio]
      obtain ⟨lq, lc, gq, gc, x1⟩ := n1.2.2.1
      obtain ⟨s1, s2⟩ := n3 a ha
      obtain ⟨t1, t2⟩ := n3 b hb
      refine c_cmpQ x1.2.2.2.2.2.2.2 s1 t1 s2 t2 (by omega) (by omega) (fun hA2 y1 y2 => ?_)
      have F : Frm B h hA2 (B + 17) (B + 48) := y2.mono (by omega) (by omega)
      have m1 : CC B hA2 n bs ln tx nr sz tm nd dy nl lm ll jk := ⟨n1.1.frm F (by omega), n1.2.ex F (x1.sc y2 y1)⟩
      have m2 := n3.frm F (by omega)
      have eW : WW bs nd dy a = WW bs nd dy b := by rw [hW, hW, hA, hB, c2]
      unfold cq
      by_cases d1 : q a < q b
      · have z1 : ¬ (-1 : Int32) = 0 := by decide
        have z2 : (-1 : Int32) ≤ 0 := by decide
        simp only [u_89_78, u_89_80, u_89_82, u_89_85, u_89_87, u_89_90, u_89_91, u_89_94, u_89_95, u_89_98, u_89_99, u_89_100, u_89_103, u_89_104, u_89_107, u_89_108, u_89_108_0, u_89_108_1, pm_O_some, pm_w_nil, pm_w_i, pm_w_l, pm_w_r, pm_w_n, pm_c_n, pm_c_i, pm_c_l, pm_c_r, pm_c_u, Nat.reduceAdd, Nat.reduceLeDiff, true_and, Option.toList_some, Option.toList_none, List.cons_append, List.nil_append, if_pos d1, if_neg z1, if_pos z2]
        refine hf ?_ hA2 m1 m2 F
        rintro (z | ⟨z, y | ⟨y, _⟩⟩)
        · omega
        · exact absurd d1 (Rat.not_lt.mpr (Rat.le_of_lt y))
        · rw [y] at d1
          exact absurd d1 (Rat.not_lt.mpr Rat.le_refl)
      · by_cases d2 : q a = q b
        · by_cases d3 : a < b
          · have z3 : ¬ nI b ≤ nI a := nI_ge d3 (by omega)
            simp only [u_89_78, u_89_80, u_89_82, u_89_85, u_89_87, u_89_90, u_89_91, u_89_94, u_89_95, u_89_98, u_89_99, u_89_100, u_89_103, u_89_104, u_89_107, u_89_108, u_89_108_0, u_89_108_1, pm_O_some, pm_w_nil, pm_w_i, pm_w_l, pm_w_r, pm_w_n, pm_c_n, pm_c_i, pm_c_l, pm_c_r, pm_c_u, Nat.reduceAdd, Nat.reduceLeDiff, true_and, Option.toList_some, Option.toList_none, List.cons_append, List.nil_append, if_neg d1, if_pos d2, i00, if_true, if_neg z3]
            exact ht (Or.inr ⟨eW, Or.inr ⟨d2, d3⟩⟩) hA2 m1 m2 F
          · have z3 : nI b ≤ nI a := nI_le (by omega) (by omega)
            simp only [u_89_78, u_89_80, u_89_82, u_89_85, u_89_87, u_89_90, u_89_91, u_89_94, u_89_95, u_89_98, u_89_99, u_89_100, u_89_103, u_89_104, u_89_107, u_89_108, u_89_108_0, u_89_108_1, pm_O_some, pm_w_nil, pm_w_i, pm_w_l, pm_w_r, pm_w_n, pm_c_n, pm_c_i, pm_c_l, pm_c_r, pm_c_u, Nat.reduceAdd, Nat.reduceLeDiff, true_and, Option.toList_some, Option.toList_none, List.cons_append, List.nil_append, if_neg d1, if_pos d2, i00, if_true, if_pos z3]
            refine hf ?_ hA2 m1 m2 F
            rintro (z | ⟨z, y | ⟨y, y2⟩⟩)
            · omega
            · rw [d2] at y
              exact absurd y (Rat.not_lt.mpr Rat.le_refl)
            · omega
        · have z1 : ¬ (1 : Int32) ≤ 0 := by decide
          simp only [u_89_78, u_89_80, u_89_82, u_89_85, u_89_87, u_89_90, u_89_91, u_89_94, u_89_95, u_89_98, u_89_99, u_89_100, u_89_103, u_89_104, u_89_107, u_89_108, u_89_108_0, u_89_108_1, pm_O_some, pm_w_nil, pm_w_i, pm_w_l, pm_w_r, pm_w_n, pm_c_n, pm_c_i, pm_c_l, pm_c_r, pm_c_u, Nat.reduceAdd, Nat.reduceLeDiff, true_and, Option.toList_some, Option.toList_none, List.cons_append, List.nil_append, if_neg d1, if_neg d2, i10, if_false, if_neg z1]
          refine ht (Or.inr ⟨eW, Or.inl ?_⟩) hA2 m1 m2 F
          refine Rat.not_le.mp (fun c => d2 (Rat.le_antisymm c (Rat.not_lt.mp d1)))
    · have z1 : ¬ (1 : Int32) ≤ 0 := by decide
      simp only [u_89_44, u_89_46, u_89_48, u_89_51, u_89_53, u_89_56, u_89_57, u_89_60, u_89_61, u_89_61_0, u_89_61_1, pm_O_some, pm_w_nil, pm_w_i, pm_w_l, pm_w_r, pm_w_n, pm_c_n, pm_c_i, pm_c_l, pm_c_r, pm_c_u, Nat.reduceAdd, Nat.reduceLeDiff, true_and, Option.toList_some, Option.toList_none, List.cons_append, List.nil_append, if_neg (mt elt.mp c1), if_neg (mt eeq.mp c2), i10, if_false, if_neg z1]
      refine ht (Or.inl ?_) h n1 n3 Frm.rfl'
      rw [hW, hW, hA, hB]
      omega
theorem c_place (n1 : CC B h n bs ln tx nr sz tm nd dy nl lm ll jk) (n3 : LD B h n q) (hb : b < n) (hQ : ∀ h', CC B h' n bs ln tx nr sz tm nd dy nl lm ll jk → LD B h' n q → Frm B h h' (B + 17) (B + 48) → Q (some (.int (nI (plc (WW bs nd dy) q b n)))) h') :
    PW B X 88 0 [some (.ref B), some (.int (nI b)), none, none] [] h Q := by
  have hn := n1.1.cf.1
  have loop : ∀ m k hc, k + m = n → CC B hc n bs ln tx nr sz tm nd dy nl lm ll jk → LD B hc n q → Frm B h hc (B + 17) (B + 48) → PW B X 88 4 [some (.ref B), some (.int (nI b)), some (.int (nI (plc (WW bs nd dy) q b k))), some (.int (nI k))] [] hc Q := by
    intro m
    induction m with
    | zero =>
      intro k hc hk m1 m2 m3
      obtain rfl : k = n := by omega
      obtain ⟨rs, rs2, lw, jh, jm, ra, a1⟩ := m1.ob
      have e1 : nI k ≤ nI k := nI_le (Nat.le_refl _) (by omega)
      simp only [u_88_4, u_88_5, u_88_5n, u_88_6, u_88_9, u_88_35, u_88_36, pm_O_some, pm_w_nil, pm_w_i, pm_w_l, pm_w_r, pm_w_n, pm_c_n, pm_c_i, pm_c_l, pm_c_r, pm_c_u, Nat.reduceAdd, Nat.reduceLeDiff, true_and, Option.toList_some, Option.toList_none, List.cons_append, List.nil_append, a1, gf_0_1, if_pos e1]
      exact hQ hc m1 m2 m3
    | succ m ih =>
      intro k hc hk m1 m2 m3
      have hkn : k < n := by omega
      obtain ⟨rs, rs2, lw, jh, jm, ra, a1⟩ := m1.ob
      have e1 : ¬ nI n ≤ nI k := nI_ge hkn (by omega)
      rw [u_88_4]
      by_cases c1 : k = b
      · have e2 : nI k = nI b := by rw [c1]
        have := ih (k + 1) hc (by omega) m1 m2 m3
        rw [plc, if_neg (fun c => c.1 c1), Nat.add_zero] at this
        simp only [u_88_5, u_88_5n, u_88_6, u_88_9, u_88_12, u_88_13, u_88_14, u_88_29, u_88_32, pm_O_some, pm_w_nil, pm_w_i, pm_w_l, pm_w_r, pm_w_n, pm_c_n, pm_c_i, pm_c_l, pm_c_r, pm_c_u, Nat.reduceAdd, Nat.reduceLeDiff, true_and, Option.toList_some, Option.toList_none, List.cons_append, List.nil_append, a1, gf_0_1, if_neg e1, if_pos e2, nI_1]
        exact this
      · have e2 : ¬ nI k = nI b := fun c => c1 ((nI_eq (by omega) (by omega)).mp c)
        simp only [u_88_5, u_88_5n, u_88_6, u_88_9, u_88_12, u_88_13, u_88_14, u_88_17, u_88_17n, u_88_18, u_88_19, u_88_20, pm_O_some, pm_w_nil, pm_w_i, pm_w_l, pm_w_r, pm_w_n, pm_c_n, pm_c_i, pm_c_l, pm_c_r, pm_c_u, Nat.reduceAdd, Nat.reduceLeDiff, true_and, Option.toList_some, Option.toList_none, List.cons_append, List.nil_append, a1, gf_0_1, if_neg e1, if_neg e2, m1.1.cf.io]
        refine c_before m1 m2 hkn hb (fun hh hA o1 o2 o3 => ?_) (fun hh hA o1 o2 o3 => ?_)
        · have := ih (k + 1) hA (by omega) o1 o2 (m3.trans o3)
          rw [plc, if_pos ⟨c1, hh⟩] at this
          simp only [u_88_23, u_88_26, u_88_29, u_88_32, pm_O_some, pm_w_nil, pm_w_i, pm_w_l, pm_w_r, pm_w_n, pm_c_n, pm_c_i, pm_c_l, pm_c_r, pm_c_u, Nat.reduceAdd, Nat.reduceLeDiff, true_and, Option.toList_some, Option.toList_none, List.cons_append, List.nil_append, i10, if_false, nI_1]
          exact this
        · have := ih (k + 1) hA (by omega) o1 o2 (m3.trans o3)
          rw [plc, if_neg (fun c => hh c.2), Nat.add_zero] at this
          simp only [u_88_23, u_88_29, u_88_32, pm_O_some, pm_w_nil, pm_w_i, pm_w_l, pm_w_r, pm_w_n, pm_c_n, pm_c_i, pm_c_l, pm_c_r, pm_c_u, Nat.reduceAdd, Nat.reduceLeDiff, true_and, Option.toList_some, Option.toList_none, List.cons_append, List.nil_append, i00, if_true, nI_1]
          exact this
  simp only [u_88_0, u_88_1, u_88_2, u_88_3, pm_O_some, pm_w_nil, pm_w_i, pm_w_l, pm_w_r, pm_w_n, pm_c_n, pm_c_i, pm_c_l, pm_c_r, pm_c_u, Nat.reduceAdd, Nat.reduceLeDiff, true_and, Option.toList_some, Option.toList_none, List.cons_append, List.nil_append]
  exact loop n 0 h (by omega) n1 n3 Frm.rfl'
theorem CC.load {s : Int32} {U L : Nat} (n1 : CC B h n bs ln tx nr sz tm nd dy nl lm ll jk) (hi : i < n) (F : Frm B h h' (B + 95 + 8 * i + 3) (B + 95 + 8 * i + 8)) (n2 : FracV B h' (B + 95 + 8 * i + 3) s U L) : CC B h' n bs ln tx nr sz tm nd dy nl lm ll jk := by
  obtain ⟨⟨b0, ⟨fa, fb, b1, b2, b3⟩, b4⟩, c0⟩ := n1.bev hi
  have := n1.up hi (F.mono (by omega) (by omega)) (g := bs i) ⟨(F.2.2 _ (by omega)).trans b0, ⟨fa, fb, (F.2.2 _ (by omega)).trans b1, (F.2.2 _ (by omega)).trans b2, b3⟩, _, _, _, n2⟩ c0
  have e : upb bs i (bs i) = bs := by
    funext k
    unfold upb
    split
    · rename_i z
      rw [z]
    · rfl
  rw [e] at this
  exact this
theorem c_loads (n1 : CC B h n bs ln tx nr sz tm nd dy nl lm ll jk) (hQ : ∀ h', CC B h' n bs ln tx nr sz tm nd dy nl lm ll jk → LD B h' n (QQ bs nr sz tm) → Kp B h h' → Q none h') :
    PW B X 87 0 [some (.ref B), none, none] [] h Q := by
  have hn := n1.1.cf.1
  have loop : ∀ m k hc v2, k + m = n → CC B hc n bs ln tx nr sz tm nd dy nl lm ll jk → LD B hc k (QQ bs nr sz tm) → Kp B h hc → PW B X 87 2 [some (.ref B), some (.int (nI k)), v2] [] hc Q := by
    intro m
    induction m with
    | zero =>
      intro k hc v2 hk m1 m2 m3
      obtain rfl : k = n := by omega
      obtain ⟨rs, rs2, lw, jh, jm, ra, a1⟩ := m1.ob
      have e1 : nI k ≤ nI k := nI_le (Nat.le_refl _) (by omega)
      simp only [u_87_2, u_87_3, u_87_3n, u_87_4, u_87_7, u_87_53, pm_O_some, pm_w_nil, pm_w_i, pm_w_l, pm_w_r, pm_w_n, pm_c_n, pm_c_i, pm_c_l, pm_c_r, pm_c_u, Nat.reduceAdd, Nat.reduceLeDiff, true_and, Option.toList_some, Option.toList_none, List.cons_append, List.nil_append, a1, gf_0_1, if_pos e1]
      exact hQ hc m1 m2 m3
    | succ m ih =>
      intro k hc v2 hk m1 m2 m3
      have hkn : k < n := by omega
      obtain ⟨rs, rs2, lw, jh, jm, ra, a1⟩ := m1.ob
      obtain ⟨lq, lc, gq, gc, x1⟩ := m1.2.2.1
      have e1 : ¬ nI n ≤ nI k := nI_ge hkn (by omega)
      rw [u_87_2]
      simp only [u_87_3, u_87_3n, u_87_4, u_87_7, u_87_10, u_87_10n, u_87_11, u_87_12, u_87_15, u_87_15n, u_87_16, u_87_16n, u_87_17, u_87_17n, u_87_20, u_87_20n, u_87_21, u_87_24, u_87_24n, u_87_25, u_87_28, u_87_28n, u_87_29, u_87_30, pm_O_some, pm_w_nil, pm_w_i, pm_w_l, pm_w_r, pm_w_n, pm_c_n, pm_c_i, pm_c_l, pm_c_r, pm_c_u, Nat.reduceAdd, Nat.reduceLeDiff, true_and, Option.toList_some, Option.toList_none, List.cons_append, List.nil_append, a1, gf_0_1, if_neg e1, m1.1.cf.io, s_find_t m1.1.cf hkn, gf_0_7, gf_0_4, pm_io_of x1.1]
      refine c_reck (k := 2) m1 ⟨_, _, _, _, _, _, _, _, _, _, _, _, _, _, _, _, _, _, a1⟩ hkn (by omega) (fun hA y1 y2 y3 => ?_)
      have t1 := (y3.2.2 B (by omega)).trans a1
      obtain ⟨⟨b0, b1, s, U, L, b2⟩, c0⟩ := y1.bev hkn
      have t2 := y2.1
      simp only [u_87_33, u_87_33n, u_87_34, u_87_37, u_87_37n, u_87_38, u_87_41, u_87_44, pm_O_some, pm_w_nil, pm_w_i, pm_w_l, pm_w_r, pm_w_n, pm_c_n, pm_c_i, pm_c_l, pm_c_r, pm_c_u, Nat.reduceAdd, Nat.reduceLeDiff, true_and, Option.toList_some, Option.toList_none, List.cons_append, List.nil_append, b0, gf_9_9, t1, gf_0_7, t2, gf_6_4, b2.io]
      refine c_fcopy b2 y2.2.2.2.2.1 (by omega) (fun hB z1 z2 => ?_)
      simp only [u_87_47, u_87_50, pm_O_some, pm_w_nil, pm_w_i, pm_w_l, pm_w_r, pm_w_n, pm_c_n, pm_c_i, pm_c_l, pm_c_r, pm_c_u, Nat.reduceAdd, Nat.reduceLeDiff, true_and, Option.toList_some, Option.toList_none, List.cons_append, List.nil_append, nI_1]
      have F : Frm B hA hB (B + 95 + 8 * k + 3) (B + 95 + 8 * k + 8) := z2
      refine ih (k + 1) hB _ (by omega) (y1.load hkn F z1) (fun j hj => ?_) ((m3.trans (Kp.of y3 (by omega))).trans (Kp.of F (by omega)))
      by_cases hjk : j = k
      · subst hjk
        exact ⟨z1, y2.2.2.2.2.2.2.1⟩
      · have := m2 j (by omega)
        exact ⟨(this.1.frm y3 (by omega)).frm F (by omega), this.2⟩
  simp only [u_87_0, u_87_1, pm_O_some, pm_w_nil, pm_w_i, pm_w_l, pm_w_r, pm_w_n, pm_c_n, pm_c_i, pm_c_l, pm_c_r, pm_c_u, Nat.reduceAdd, Nat.reduceLeDiff, true_and, Option.toList_some, Option.toList_none, List.cons_append, List.nil_append]
  exact loop n 0 h _ (by omega) n1 (fun j hj => by omega) Kp.rfl'
theorem c_inspect {b : Int32} (n1 : CC B h n bs ln tx nr sz tm nd dy nl lm ll jk) (hg : vb n b → ∀ i h', i < n → plc (WW bs nd dy) (QQ bs nr sz tm) i n = ix b → CC B h' n bs ln tx nr sz tm nd dy nl lm ll jk → Kp B h h' → Q (some (.int (nI i))) h') (hb : ¬ vb n b → Q (some (.int (-1))) h) :
    PW B X 86 0 [some (.ref B), some (.int b), none] [] h Q := by
  have cf := n1.1.cf
  have hn := cf.1
  obtain ⟨rs, rs2, lw, jh, jm, ra, a1⟩ := n1.ob
  have e4 : ((0 : Int32) ≤ b ∧ b ≤ nI n - 1) ↔ vb n b := by
    rw [i_le, i_le, nI_m1 (by omega)]
    unfold vb
    change (0 ≤ b.toInt ∧ _) ↔ _
    omega
  by_cases h1 : vb n b
  · have u1 := e4.mpr h1
    have hg2 := hg h1
    obtain ⟨e1, e2⟩ := vb_ix h1
    clear hg e4
    generalize ix b = t at hg2 e1 e2
    subst e1
    simp only [u_86_0, u_86_1, u_86_2, u_86_2n, u_86_3, u_86_6, u_86_7, u_86_8, u_86_11, u_86_14, u_86_15, u_86_16, u_86_16n, u_86_17, pm_O_some, pm_w_nil, pm_w_i, pm_w_l, pm_w_r, pm_w_n, pm_c_n, pm_c_i, pm_c_l, pm_c_r, pm_c_u, Nat.reduceAdd, Nat.reduceLeDiff, true_and, Option.toList_some, Option.toList_none, List.cons_append, List.nil_append, a1, gf_0_1, s_within, one0, ite_not, if_pos u1, i10, if_false, cf.io]
    refine c_loads n1 (fun hA o1 o2 o3 => ?_)
    have loop : ∀ m k hc, k + m = n → (∀ j, j < k → ¬ plc (WW bs nd dy) (QQ bs nr sz tm) j n = t) → CC B hc n bs ln tx nr sz tm nd dy nl lm ll jk → LD B hc n (QQ bs nr sz tm) → Kp B h hc → PW B X 86 22 [some (.ref B), some (.int (nI t)), some (.int (nI k))] [] hc Q := by
      intro m
      induction m with
      | zero =>
        intro k hc hk m0 m1 m2 m3
        obtain rfl : k = n := by omega
        obtain ⟨i, i1, i2⟩ := plc_sur (W := WW bs nd dy) (q := QQ bs nr sz tm) e2
        exact absurd i2 (m0 i i1)
      | succ m ih =>
        intro k hc hk m0 m1 m2 m3
        have hkn : k < n := by omega
        obtain ⟨rs, rs2, lw, jh, jm, ra, a1⟩ := m1.ob
        have e1 : ¬ nI n ≤ nI k := nI_ge hkn (by omega)
        rw [u_86_22]
        simp only [u_86_23, u_86_23n, u_86_24, u_86_27, u_86_30, u_86_30n, u_86_31, u_86_32, pm_O_some, pm_w_nil, pm_w_i, pm_w_l, pm_w_r, pm_w_n, pm_c_n, pm_c_i, pm_c_l, pm_c_r, pm_c_u, Nat.reduceAdd, Nat.reduceLeDiff, true_and, Option.toList_some, Option.toList_none, List.cons_append, List.nil_append, a1, gf_0_1, if_neg e1, m1.1.cf.io]
        refine c_place m1 m2 hkn (fun hB p1 p2 p3 => ?_)
        have hl := (plc_lt (W := WW bs nd dy) (q := QQ bs nr sz tm) (b := k) n).1
        by_cases c1 : plc (WW bs nd dy) (QQ bs nr sz tm) k n = t
        · have z1 : nI (plc (WW bs nd dy) (QQ bs nr sz tm) k n) = nI t := by rw [c1]
          simp only [u_86_35, u_86_36, u_86_39, u_86_40, pm_O_some, pm_w_nil, pm_w_i, pm_w_l, pm_w_r, pm_w_n, pm_c_n, pm_c_i, pm_c_l, pm_c_r, pm_c_u, Nat.reduceAdd, Nat.reduceLeDiff, true_and, Option.toList_some, Option.toList_none, List.cons_append, List.nil_append, z1, not_true, if_false]
          exact hg2 k hB hkn c1 p1 (m3.trans (Kp.of p3 (by omega)))
        · have z1 : ¬ nI (plc (WW bs nd dy) (QQ bs nr sz tm) k n) = nI t := fun c => c1 ((nI_eq (by omega) (by omega)).mp c)
          simp only [u_86_35, u_86_36, u_86_41, u_86_44, pm_O_some, pm_w_nil, pm_w_i, pm_w_l, pm_w_r, pm_w_n, pm_c_n, pm_c_i, pm_c_l, pm_c_r, pm_c_u, Nat.reduceAdd, Nat.reduceLeDiff, true_and, Option.toList_some, Option.toList_none, List.cons_append, List.nil_append, z1, not_false_eq_true, if_true, nI_1]
          refine ih (k + 1) hB (by omega) (fun j hj => ?_) p1 p2 (m3.trans (Kp.of p3 (by omega)))
          by_cases hjk : j = k
          · rw [hjk]
            exact c1
          · exact m0 j (by omega)
    simp only [u_86_20, u_86_21, pm_O_some, pm_w_nil, pm_w_i, pm_w_l, pm_w_r, pm_w_n, pm_c_n, pm_c_i, pm_c_l, pm_c_r, pm_c_u, Nat.reduceAdd, Nat.reduceLeDiff, true_and, Option.toList_some, Option.toList_none, List.cons_append, List.nil_append]
    exact loop n 0 hA (by omega) (fun j hj => by omega) o1 o2 o3
  · simp only [u_86_0, u_86_1, u_86_2, u_86_2n, u_86_3, u_86_6, u_86_7, u_86_8, u_86_11, u_86_14, u_86_15, pm_O_some, pm_w_nil, pm_w_i, pm_w_l, pm_w_r, pm_w_n, pm_c_n, pm_c_i, pm_c_l, pm_c_r, pm_c_u, Nat.reduceAdd, Nat.reduceLeDiff, true_and, Option.toList_some, Option.toList_none, List.cons_append, List.nil_append, a1, gf_0_1, s_within, one0, ite_not, if_neg (mt e4.mp h1), i00, if_true]
    exact hb h1
end IP

/-! THE RANK: what it is, and the class's way to it. -/
def hd (bs : Nat → Bg) (ax i : Nat) : Prop := if ax = 0 then ¬ (bs i).2.2.1 = 0 else ¬ (bs i).2.2.2.1 = 0
def pt (bs : Nat → Bg) (ax i j : Nat) : Int := if ax = 0 then -((bs i).2.1.toInt - (bs j).2.1.toInt) else (bs i).1.toInt - (bs j).1.toInt
def pg (bs : Nat → Bg) (ax i j : Nat) : Int := if ax = 0 then (bs i).1.toInt - (bs j).1.toInt else (bs i).2.1.toInt - (bs j).2.1.toInt
/-- a difference of two rows of one axis -/
def DD (bs : Nat → Bg) (n : Nat) (a b : Int) : Prop := ∃ ax i j, ax < 2 ∧ i < n ∧ j < n ∧ hd bs ax i ∧ hd bs ax j ∧ a = pt bs ax i j ∧ b = pg bs ax i j
def rkB (D : Int → Int → Prop) (k : Nat) : Prop := (k = 2 ∧ ∃ a b c d, D a b ∧ D c d ∧ a * d ≠ b * c) ∨ (k = 1 ∧ (∃ a b, D a b ∧ (a ≠ 0 ∨ b ≠ 0)) ∧ ∀ a b c d, D a b → D c d → a * d = b * c) ∨ (k = 0 ∧ ∀ a b, D a b → a = 0 ∧ b = 0)
def rkT (D : Int → Int → Prop) (k : Nat) : Prop := (k = 1 ∧ ∃ a b, D a b ∧ a ≠ 0) ∨ (k = 0 ∧ ∀ a b, D a b → a = 0)
def rkA (bs : Nat → Bg) (n ax k : Nat) : Prop := (k = 1 ∧ ∃ i, i < n ∧ hd bs ax i) ∨ (k = 0 ∧ ∀ i, i < n → ¬ hd bs ax i)
def RK (bs : Nat → Bg) (n : Nat) (gr : Prop) (k : Nat) : Prop := ∃ a b c, rkA bs n 0 a ∧ rkA bs n 1 b ∧ (gr → rkB (DD bs n) c) ∧ (¬ gr → rkT (DD bs n) c) ∧ k = a + b + c
theorem rkB_uniq {D : Int → Int → Prop} {j k : Nat} (h1 : rkB D j) (h2 : rkB D k) : j = k := by
  rcases h1 with ⟨r, a, b, c, d, p1, p2, p3⟩ | ⟨r, ⟨a, b, p1, p2⟩, p3⟩ | ⟨r, p1⟩
  · rcases h2 with ⟨r2, _⟩ | ⟨r2, _, q⟩ | ⟨r2, q⟩
    · omega
    · exact absurd (q a b c d p1 p2) p3
    · obtain ⟨rfl, rfl⟩ := q a b p1
      exact absurd (by simp) p3
  · rcases h2 with ⟨r2, a, b, c, d, q1, q2, q3⟩ | ⟨r2, _⟩ | ⟨r2, q⟩
    · exact absurd (p3 a b c d q1 q2) q3
    · omega
    · have := q a b p1
      omega
  · rcases h2 with ⟨r2, a, b, c, d, q1, q2, q3⟩ | ⟨r2, ⟨a, b, q1, q2⟩, _⟩ | ⟨r2, q⟩
    · obtain ⟨rfl, rfl⟩ := p1 a b q1
      exact absurd (by simp) q3
    · have := p1 a b q1
      omega
    · omega
theorem rkT_uniq {D : Int → Int → Prop} {j k : Nat} (h1 : rkT D j) (h2 : rkT D k) : j = k := by
  rcases h1 with ⟨r, a, b, p1, p2⟩ | ⟨r, p1⟩
  · rcases h2 with ⟨r2, _⟩ | ⟨r2, q⟩
    · omega
    · exact absurd (q a b p1) p2
  · rcases h2 with ⟨r2, a, b, q1, q2⟩ | ⟨r2, q⟩
    · exact absurd (p1 a b q1) q2
    · omega
theorem rkA_uniq {bs : Nat → Bg} {n ax j k : Nat} (h1 : rkA bs n ax j) (h2 : rkA bs n ax k) : j = k := by
  rcases h1 with ⟨r, i, p1, p2⟩ | ⟨r, p1⟩
  · rcases h2 with ⟨r2, _⟩ | ⟨r2, q⟩
    · omega
    · exact absurd p2 (q i p1)
  · rcases h2 with ⟨r2, i, q1, q2⟩ | ⟨r2, q⟩
    · exact absurd q2 (p1 i q1)
    · omega
theorem RK_uniq {bs : Nat → Bg} {n j k : Nat} {gr : Prop} (h1 : RK bs n gr j) (h2 : RK bs n gr k) : j = k := by
  obtain ⟨a, b, c, p1, p2, p3, p4, p5⟩ := h1
  obtain ⟨a', b', c', q1, q2, q3, q4, q5⟩ := h2
  have e1 := rkA_uniq p1 q1
  have e2 := rkA_uniq p2 q2
  by_cases z : gr
  · have e3 := rkB_uniq (p3 z) (q3 z)
    omega
  · have e3 := rkT_uniq (p4 z) (q4 z)
    omega
theorem RK_le {bs : Nat → Bg} {n k : Nat} {gr : Prop} (h1 : RK bs n gr k) : k ≤ 4 := by
  obtain ⟨a, b, c, p1, p2, p3, p4, p5⟩ := h1
  have t1 : a ≤ 1 := by rcases p1 with z | z <;> omega
  have t2 : b ≤ 1 := by rcases p2 with z | z <;> omega
  have t3 : c ≤ 2 := by
    by_cases z : gr
    · rcases p3 z with z | z | z <;> omega
    · rcases p4 z with z | z <;> omega
  omega
/-- from rows less one row to all differences -/
theorem rkB_diff {S D : Int → Int → Prop} {k : Nat} (h1 : ∀ a b, S a b → D a b) (h2 : ∀ a b, D a b → ∃ a1 b1 a2 b2, S a1 b1 ∧ S a2 b2 ∧ a = a1 - a2 ∧ b = b1 - b2) (h : rkB S k) : rkB D k := by
  rcases h with ⟨r, a, b, c, d, p1, p2, p3⟩ | ⟨r, ⟨a, b, p1, p2⟩, p3⟩ | ⟨r, p1⟩
  · exact Or.inl ⟨r, a, b, c, d, h1 _ _ p1, h1 _ _ p2, p3⟩
  · refine Or.inr (Or.inl ⟨r, ⟨a, b, h1 _ _ p1, p2⟩, fun a b c d q1 q2 => ?_⟩)
    obtain ⟨a1, b1, a2, b2, s1, s2, rfl, rfl⟩ := h2 _ _ q1
    obtain ⟨c1, d1, c2, d2, s3, s4, rfl, rfl⟩ := h2 _ _ q2
    have t1 := p3 _ _ _ _ s1 s3
    have t2 := p3 _ _ _ _ s1 s4
    have t3 := p3 _ _ _ _ s2 s3
    have t4 := p3 _ _ _ _ s2 s4
    grind
  · refine Or.inr (Or.inr ⟨r, fun a b q1 => ?_⟩)
    obtain ⟨a1, b1, a2, b2, s1, s2, rfl, rfl⟩ := h2 _ _ q1
    have t1 := p1 _ _ s1
    have t2 := p1 _ _ s2
    omega
theorem rkT_diff {S D : Int → Int → Prop} {k : Nat} (h1 : ∀ a b, S a b → D a b) (h2 : ∀ a b, D a b → ∃ a1 b1 a2 b2, S a1 b1 ∧ S a2 b2 ∧ a = a1 - a2 ∧ b = b1 - b2) (h : rkT S k) : rkT D k := by
  rcases h with ⟨r, a, b, p1, p2⟩ | ⟨r, p1⟩
  · exact Or.inl ⟨r, a, b, h1 _ _ p1, p2⟩
  · refine Or.inr ⟨r, fun a b q1 => ?_⟩
    obtain ⟨a1, b1, a2, b2, s1, s2, rfl, rfl⟩ := h2 _ _ q1
    have t1 := p1 _ _ s1
    have t2 := p1 _ _ s2
    omega
/-- what is parallel to one that isn't 0 is parallel -/
theorem par_par {t g a b c d : Int} (h0 : t ≠ 0 ∨ g ≠ 0) (h1 : t * b = g * a) (h2 : t * d = g * c) : a * d = b * c := by
  rcases h0 with z | z
  · apply Int.eq_of_mul_eq_mul_left z
    grind
  · apply Int.eq_of_mul_eq_mul_left z
    grind
def dinv (S : Int → Int → Prop) (t g : Int) (rb rt : Nat) : Prop := rkT S rt ∧ ((rb = 0 ∧ t = 0 ∧ g = 0 ∧ ∀ a b, S a b → a = 0 ∧ b = 0) ∨ (rb = 1 ∧ S t g ∧ (t ≠ 0 ∨ g ≠ 0) ∧ ∀ a b, S a b → t * b = g * a) ∨ (rb = 2 ∧ ∃ a b c d, S a b ∧ S c d ∧ a * d ≠ b * c))
theorem dinv_B {S : Int → Int → Prop} {t g : Int} {rb rt : Nat} (h : dinv S t g rb rt) : rkB S rb := by
  rcases h.2 with ⟨r, _, _, p⟩ | ⟨r, p1, p2, p3⟩ | p
  · exact Or.inr (Or.inr ⟨r, p⟩)
  · exact Or.inr (Or.inl ⟨r, ⟨t, g, p1, p2⟩, fun a b c d q1 q2 => par_par p2 (p3 _ _ q1) (p3 _ _ q2)⟩)
  · exact Or.inl p
def DfV (B : Nat) (h : pm_H) (S : Int → Int → Prop) : Prop := ∃ t g rb rt, pm_at B h (B + 2) = some (.inr (1, [.long (lI t), .long (lI g), .int (nI rb), .int (nI rt)])) ∧ dinv S t g rb rt ∧ (-1000000 ≤ t ∧ t ≤ 1000000) ∧ (-1000000 ≤ g ∧ g ≤ 1000000)
theorem mul_bd {a b : Int} (h1 : -1000000 ≤ a ∧ a ≤ 1000000) (h2 : -1000000 ≤ b ∧ b ≤ 1000000) : -2 ^ 62 < a * b ∧ a * b < 2 ^ 62 := by
  have t : (a * b).natAbs ≤ 1000000 * 1000000 := by
    rw [Int.natAbs_mul]
    exact Nat.mul_le_mul (by omega) (by omega)
  omega
section RA
variable {B : Nat} {X : pm_X} {h h' h2 : pm_H} {Q : Option Value → pm_H → Prop} {e lo hi n ln nr nd nl i a k j : Nat} {bs : Nat → Bg} {tx sz lm ll : Nat → Nat} {tm : Nat → Nat → Tm} {dy : Nat → Int} {jk : Option (Nat × Nat)} {g : Bg} {S : Int → Int → Prop} {u v : Int}
theorem DfV.frm (n1 : DfV B h S) (F : Frm B h h' lo hi) (d : hi ≤ B + 2 ∨ B + 3 ≤ lo) : DfV B h' S := by
  obtain ⟨t, g, rb, rt, p1, p2⟩ := n1
  exact ⟨t, g, rb, rt, by rw [F.2.2 _ (by omega)]; exact p1, p2⟩
theorem DfV.io (n1 : DfV B h S) : pm_io B h (B + 2) 1 = true := by
  obtain ⟨t, g, rb, rt, p1, p2⟩ := n1
  exact pm_io_of p1
theorem c_dclear {t g : Int64} {rb rt : Int32} (n1 : pm_at B h (B + 2) = some (.inr (1, [.long t, .long g, .int rb, .int rt]))) (hQ : ∀ h', DfV B h' (fun _ _ => False) → Frm B h h' (B + 2) (B + 3) → Q none h') : PW B X 66 0 [some (.ref (B + 2))] [] h Q := by
  have at1 := pm_v_at n1
  simp only [u_66_0, u_66_0n, u_66_1, u_66_2, u_66_5, u_66_5n, u_66_6, u_66_7, u_66_10, u_66_10n, u_66_11, u_66_12, u_66_15, u_66_15n, u_66_16, u_66_17, u_66_20, pm_O_some, pm_w_nil, pm_w_i, pm_w_l, pm_w_r, pm_w_n, pm_c_n, pm_c_i, pm_c_l, pm_c_r, pm_c_u, Nat.reduceAdd, Nat.reduceLeDiff, true_and, Option.toList_some, Option.toList_none, List.cons_append, List.nil_append, n1, pf_1_0, pf_1_1, pf_1_2, pf_1_3, pm_at_self at1, pm_v_set, pm_set_set]
  exact hQ _ ⟨0, 0, 0, 0, pm_at_self at1, ⟨Or.inr ⟨rfl, fun _ _ c => c.elim⟩, Or.inl ⟨rfl, rfl, rfl, fun _ _ c => c.elim⟩⟩, by omega, by omega⟩ (Frm.set n1 rfl)
theorem c_dadd (n1 : DfV B h S) (hu : -1000000 ≤ u ∧ u ≤ 1000000) (hv : -1000000 ≤ v ∧ v ≤ 1000000) (hQ : ∀ h', DfV B h' (fun a b => S a b ∨ (a = u ∧ b = v)) → Frm B h h' (B + 2) (B + 3) → Q none h') : PW B X 69 0 [some (.ref (B + 2)), some (.long (lI u)), none, some (.long (lI v)), none] [] h Q := by
  obtain ⟨t, g, rb, rt, p1, ⟨p2, p3⟩, p4, p5⟩ := n1
  have z0 : ∀ {w : Int}, -1000000 ≤ w ∧ w ≤ 1000000 → (lI w = 0 ↔ w = 0) := fun {w} hw => lI_eq (b := 0) (by omega) (by decide)
  have key : ∀ hA rt', pm_at B hA (B + 2) = some (.inr (1, [.long (lI t), .long (lI g), .int (nI rb), .int (nI rt')])) → Frm B h hA (B + 2) (B + 3) → rkT (fun a b => S a b ∨ (a = u ∧ b = v)) rt' → PW B X 69 11 [some (.ref (B + 2)), some (.long (lI u)), none, some (.long (lI v)), none] [] hA Q := by
    intro hA rt' q1 q2 q3
    have b1 := mul_bd p4 hv
    have b2 := mul_bd p5 hu
    have cmp := lI_eq (a := t * v) (b := g * u) b1 b2
    -- behind: the product test
    have tail : (rb = 0 → u = 0 ∧ v = 0) → PW B X 69 48 [some (.ref (B + 2)), some (.long (lI u)), none, some (.long (lI v)), none] [] hA Q := by
      intro hz
      by_cases c1 : t * v = g * u
      · simp only [u_69_48, u_69_48n, u_69_49, u_69_52, u_69_53, u_69_54, u_69_54n, u_69_55, u_69_58, u_69_59, u_69_60, u_69_61, u_69_64, u_69_64n, u_69_65, u_69_66, u_69_69, pm_O_some, pm_w_nil, pm_w_i, pm_w_l, pm_w_r, pm_w_n, pm_c_n, pm_c_i, pm_c_l, pm_c_r, pm_c_u, Nat.reduceAdd, Nat.reduceLeDiff, true_and, Option.toList_some, Option.toList_none, List.cons_append, List.nil_append, q1, gf_1_0, gf_1_1, lI_mul, lg_cmp_eq, if_pos (cmp.mpr c1)]
        refine hQ hA ⟨t, g, rb, rt', q1, ⟨q3, ?_⟩, p4, p5⟩ q2
        rcases p3 with ⟨r, e1, e2, e3⟩ | ⟨r, e1, e2, e3⟩ | ⟨r, a, b, c, d, e1, e2, e3⟩
        · obtain ⟨rfl, rfl⟩ := hz r
          refine Or.inl ⟨r, e1, e2, fun a b c => ?_⟩
          rcases c with c | c
          · exact e3 a b c
          · exact c
        · refine Or.inr (Or.inl ⟨r, Or.inl e1, e2, fun a b c => ?_⟩)
          rcases c with c | ⟨rfl, rfl⟩
          · exact e3 a b c
          · exact c1
        · exact Or.inr (Or.inr ⟨r, a, b, c, d, Or.inl e1, Or.inl e2, e3⟩)
      · simp only [u_69_48, u_69_48n, u_69_49, u_69_52, u_69_53, u_69_54, u_69_54n, u_69_55, u_69_58, u_69_59, u_69_60, u_69_61, u_69_64, u_69_64n, u_69_65, u_69_66, u_69_69, pm_O_some, pm_w_nil, pm_w_i, pm_w_l, pm_w_r, pm_w_n, pm_c_n, pm_c_i, pm_c_l, pm_c_r, pm_c_u, Nat.reduceAdd, Nat.reduceLeDiff, true_and, Option.toList_some, Option.toList_none, List.cons_append, List.nil_append, q1, gf_1_0, gf_1_1, lI_mul, lg_cmp_eq, if_neg (mt cmp.mp c1), pf_1_2]
        refine hQ _ ⟨t, g, 2, rt', pm_at_self (pm_v_at q1), ⟨q3, ?_⟩, p4, p5⟩ (q2.trans (Frm.set q1 rfl))
        rcases p3 with ⟨r, e1, e2, e3⟩ | ⟨r, e1, e2, e3⟩ | ⟨r, a, b, c, d, e1, e2, e3⟩
        · rw [e1, e2] at c1
          exact absurd (by simp) c1
        · exact Or.inr (Or.inr ⟨rfl, t, g, u, v, Or.inl e1, Or.inr ⟨rfl, rfl⟩, c1⟩)
        · exact Or.inr (Or.inr ⟨rfl, a, b, c, d, Or.inl e1, Or.inl e2, e3⟩)
    by_cases r0 : rb = 0
    · have e1 : nI rb = 0 := by rw [r0]; rfl
      by_cases c1 : u = 0 ∧ v = 0
      · have := tail (fun _ => c1)
        simp only [u_69_11, u_69_11n, u_69_12, u_69_15, u_69_18, u_69_19, u_69_20, u_69_21, u_69_24, u_69_25, u_69_26, u_69_27, pm_O_some, pm_w_nil, pm_w_i, pm_w_l, pm_w_r, pm_w_n, pm_c_n, pm_c_i, pm_c_l, pm_c_r, pm_c_u, Nat.reduceAdd, Nat.reduceLeDiff, true_and, Option.toList_some, Option.toList_none, List.cons_append, List.nil_append, q1, gf_1_2, e1, not_true, if_false, lg_cmp_eq, if_pos ((z0 hv).mpr c1.2), (z0 hu).mpr c1.1]
        rw [(z0 hu).mpr c1.1] at this
        exact this
      · have fin : PW B X 69 30 [some (.ref (B + 2)), some (.long (lI u)), none, some (.long (lI v)), none] [] hA Q := by
          have at1 := pm_v_at q1
          simp only [u_69_30, u_69_30n, u_69_31, u_69_32, u_69_35, u_69_35n, u_69_36, u_69_37, u_69_40, u_69_40n, u_69_41, u_69_42, u_69_45, u_69_69, pm_O_some, pm_w_nil, pm_w_i, pm_w_l, pm_w_r, pm_w_n, pm_c_n, pm_c_i, pm_c_l, pm_c_r, pm_c_u, Nat.reduceAdd, Nat.reduceLeDiff, true_and, Option.toList_some, Option.toList_none, List.cons_append, List.nil_append, q1, pf_1_0, pf_1_1, pf_1_2, pm_at_self at1, pm_v_set, pm_set_set]
          refine hQ _ ⟨u, v, 1, rt', pm_at_self at1, ⟨q3, Or.inr (Or.inl ⟨rfl, Or.inr ⟨rfl, rfl⟩, by omega, fun a b c => ?_⟩)⟩, hu, hv⟩ (q2.trans (Frm.set q1 rfl))
          rcases p3 with ⟨r, e1, e2, e3⟩ | ⟨r, _⟩ | ⟨r, _⟩
          · rcases c with c | ⟨rfl, rfl⟩
            · obtain ⟨rfl, rfl⟩ := e3 a b c
              simp
            · exact Int.mul_comm _ _
          · omega
          · omega
        by_cases c2 : u = 0
        · have c3 : ¬ v = 0 := fun c => c1 ⟨c2, c⟩
          simp only [u_69_11, u_69_11n, u_69_12, u_69_15, u_69_18, u_69_19, u_69_20, u_69_21, u_69_24, u_69_25, u_69_26, u_69_27, pm_O_some, pm_w_nil, pm_w_i, pm_w_l, pm_w_r, pm_w_n, pm_c_n, pm_c_i, pm_c_l, pm_c_r, pm_c_u, Nat.reduceAdd, Nat.reduceLeDiff, true_and, Option.toList_some, Option.toList_none, List.cons_append, List.nil_append, q1, gf_1_2, e1, not_true, if_false, lg_cmp_eq, if_neg (mt (z0 hv).mp c3), (z0 hu).mpr c2]
          rw [(z0 hu).mpr c2] at fin
          exact fin
        · simp only [u_69_11, u_69_11n, u_69_12, u_69_15, u_69_18, u_69_19, u_69_20, u_69_21, pm_O_some, pm_w_nil, pm_w_i, pm_w_l, pm_w_r, pm_w_n, pm_c_n, pm_c_i, pm_c_l, pm_c_r, pm_c_u, Nat.reduceAdd, Nat.reduceLeDiff, true_and, Option.toList_some, Option.toList_none, List.cons_append, List.nil_append, q1, gf_1_2, e1, not_true, if_false, lg_cmp_eq, if_pos (mt (z0 hu).mp c2)]
          exact fin
    · have hrb : rb < 3 := by rcases p3 with ⟨r, _⟩ | ⟨r, _⟩ | ⟨r, _⟩ <;> omega
      have e1 : ¬ nI rb = 0 := nI_ne0 (by omega) (by omega)
      simp only [u_69_11, u_69_11n, u_69_12, u_69_15, pm_O_some, pm_w_nil, pm_w_i, pm_w_l, pm_w_r, pm_w_n, pm_c_n, pm_c_i, pm_c_l, pm_c_r, pm_c_u, Nat.reduceAdd, Nat.reduceLeDiff, true_and, Option.toList_some, Option.toList_none, List.cons_append, List.nil_append, q1, gf_1_2, e1, not_false_eq_true, if_true]
      exact tail (fun c => absurd c r0)
  by_cases c0 : u = 0
  · have := key h rt p1 Frm.rfl' (by
      rcases p2 with ⟨r, a, b, e1, e2⟩ | ⟨r, e1⟩
      · exact Or.inl ⟨r, a, b, Or.inl e1, e2⟩
      · refine Or.inr ⟨r, fun a b c => ?_⟩
        rcases c with c | ⟨rfl, _⟩
        · exact e1 a b c
        · exact c0)
    simp only [u_69_0, u_69_1, u_69_2, u_69_3, pm_O_some, pm_w_nil, pm_w_i, pm_w_l, pm_w_r, pm_w_n, pm_c_n, pm_c_i, pm_c_l, pm_c_r, pm_c_u, Nat.reduceAdd, Nat.reduceLeDiff, true_and, Option.toList_some, Option.toList_none, List.cons_append, List.nil_append, lg_cmp_eq, if_pos ((z0 hu).mpr c0)]
    exact this
  · simp only [u_69_0, u_69_1, u_69_2, u_69_3, u_69_6, u_69_6n, u_69_7, u_69_8, pm_O_some, pm_w_nil, pm_w_i, pm_w_l, pm_w_r, pm_w_n, pm_c_n, pm_c_i, pm_c_l, pm_c_r, pm_c_u, Nat.reduceAdd, Nat.reduceLeDiff, true_and, Option.toList_some, Option.toList_none, List.cons_append, List.nil_append, lg_cmp_eq, if_neg (mt (z0 hu).mp c0), p1, pf_1_3]
    exact key _ 1 (pm_at_self (pm_v_at p1)) (Frm.set p1 rfl) (Or.inl ⟨rfl, u, v, Or.inr ⟨rfl, rfl⟩, c0⟩)
end RA

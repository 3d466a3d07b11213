/-! THE REFERENCE: isEnough, best. -/
def En (ws : Int32) (q : Rat) (k : Nat) : Prop := (ws = 0 → q.num.natAbs ≤ q.den * k) ∧ (¬ ws = 0 → (q.num < 0 ∨ q.num.natAbs ≤ q.den * k))
def qab (q : Rat) : Rat := ⟨(q.num.natAbs : Int), q.den, q.den_nz, by have := q.reduced; rw [Int.natAbs_natCast]; exact this⟩
def qn (k : Nat) : Rat := ⟨(k : Int), 1, by decide, Nat.coprime_one_right _⟩
theorem qn_lt {k : Nat} {q : Rat} : ¬ qn k < q ↔ q.num ≤ (k : Int) * q.den := by
  rw [Rat.lt_iff]
  show ¬ (k : Int) * (q.den : Int) < q.num * ((1 : Nat) : Int) ↔ _
  generalize (k : Int) * (q.den : Int) = z
  omega
theorem En_iff {ws : Int32} {q : Rat} {k : Nat} : En ws q k ↔ ¬ qn k < (if ws = 0 then qab q else q) := by
  unfold En
  rw [qn_lt]
  have e : ((q.den * k : Nat) : Int) = (k : Int) * q.den := by rw [Int.natCast_mul, Int.mul_comm]
  have p : 0 ≤ (k : Int) * (q.den : Int) := Int.mul_nonneg (by omega) (by omega)
  by_cases c : ws = 0
  · rw [if_pos c]
    show _ ↔ (q.num.natAbs : Int) ≤ (k : Int) * (q.den : Int)
    rw [← e]
    constructor
    · intro z
      have := z.1 c
      omega
    · intro z
      exact ⟨fun _ => by omega, fun y => absurd c y⟩
  · rw [if_neg c, ← e]
    rw [← e] at p
    constructor
    · intro z
      have := z.2 c
      omega
    · intro z
      exact ⟨fun y => absurd y c, fun _ => by omega⟩
theorem sg_p {a : Int} (h : 0 < a) : sg a = 1 := by
  unfold sg
  rw [if_neg (by omega), if_neg (by omega)]
section BES
variable {B : Nat} {X : pm_X} {h h' h2 : pm_H} {Q : Option Value → pm_H → Prop} {m lo hi n ln nr nd nl i k a r : Nat} {bs : Nat → Bg} {tx sz lm ll : Nat → Nat} {tm : Nat → Nat → Tm} {dy : Nat → Int} {jk : Option (Nat × Nat)} {R : Nat → Rg} {b ws : Int32} {q : Rat}
theorem c_isEnough (n1 : NS B h m R) (rq : rgq (R r) q) (hs : sm7 q) (hr : r < 2) (hk : k < 1000000000) (hQ : ∀ h' R' x, NS B h' m R' → ((x = 1 ∧ En ws q k) ∨ (x = 0 ∧ ¬ En ws q k)) → (∀ j, ¬ (2 ≤ j ∧ j ≤ 5) → R' j = R j) → Frm B h h' (m + 18) (m + 22) → Q (some (.int x)) h') :
    PW B X 140 0 [some (.ref m), some (.int (nI k)), some (.int (nI r)), some (.int ws)] [] h Q := by
  simp only [u_140_0, u_140_0n, u_140_1, u_140_2, u_140_3, pm_O_some, pm_w_nil, pm_w_i, pm_w_l, pm_w_r, pm_w_n, pm_c_n, pm_c_i, pm_c_l, pm_c_r, pm_c_u, Nat.reduceAdd, Nat.reduceLeDiff, true_and, Option.toList_some, Option.toList_none, List.cons_append, List.nil_append, n1.io]
  refine c_copy (p := r) (q := 2) n1 (by omega) (by omega) (by omega) (fun h1 n2 F1 => ?_)
  have R2 : ups R 2 (R r) 2 = R r := ups_s
  have Ro : ∀ j, ¬ j = 2 → ups R 2 (R r) j = R j := fun j hj => ups_n hj
  generalize ups R 2 (R r) = R1 at n2 R2 Ro
  obtain ⟨fl, fu, fs, fw, z1, z2⟩ := id n2
  have a3 := z1.2.2.2.2.1
  have f2 : fs 2 = sg q.num := by
    obtain ⟨_, _, _, _, _, _, _, a7, _⟩ := z2 2 (by omega)
    rw [a7, R2, rq.1]
  have st8 : ∀ {s : Int32}, pm_sti 0 (some (.inl (0, 8, .inl fs))) 2 s = some (.inl (0, 8, .inl (upd fs 2 s))) := fun {s} => st_i (t := 0) (i := 2) (ix_8 (show 2 < 8 by omega)) rfl
  have hqd : (if ws = 0 then qab q else q).den = q.den := by split <;> rfl
  have hqn : (if ws = 0 then qab q else q).num.natAbs = q.num.natAbs := by
    split
    · exact Int.natAbs_natCast _
    · rfl
  have hs2 : sm7 (if ws = 0 then qab q else q) := by
    unfold sm7
    rw [hqd, hqn]
    exact hs
  have fin : ∀ s, s = sg (if ws = 0 then qab q else q).num → PW B X 140 35 [some (.ref m), some (.int (nI k)), some (.int (nI r)), some (.int ws)] [] (pm_set B h1 (m + 20) (.inl (0, 8, .inl (upd fs 2 s)))) Q := by
    intro s hse
    obtain ⟨k1, k2⟩ := z1.sets (upd fs 2 s)
    have m7 : NS B _ m (ups R1 2 (s, (R1 2).2.1, (R1 2).2.2)) := ⟨_, _, _, _, k1, NS.sgn z2 (by omega) s⟩
    simp only [u_140_35, u_140_35n, u_140_36, u_140_37, u_140_38, pm_O_some, pm_w_nil, pm_w_i, pm_w_l, pm_w_r, pm_w_n, pm_c_n, pm_c_i, pm_c_l, pm_c_r, pm_c_u, Nat.reduceAdd, Nat.reduceLeDiff, true_and, Option.toList_some, Option.toList_none, List.cons_append, List.nil_append, m7.io]
    have kT := nI_toInt (show k < 2 ^ 31 by omega)
    refine c_set (r := 3) m7 (by omega) (by rw [kT]; omega) (fun h3 m8 F3 => ?_)
    rw [kT] at m8
    simp only [u_140_41, u_140_41n, u_140_42, u_140_43, u_140_44, pm_O_some, pm_w_nil, pm_w_i, pm_w_l, pm_w_r, pm_w_n, pm_c_n, pm_c_i, pm_c_l, pm_c_r, pm_c_u, Nat.reduceAdd, Nat.reduceLeDiff, true_and, Option.toList_some, Option.toList_none, List.cons_append, List.nil_append, m8.io]
    refine c_compare (a := 3) (b := 2) (qa := qn k) (qb := if ws = 0 then qab q else q) m8 ?_ ?_ (by omega) (by omega) ?_ hs2.s9 (fun h4 R4 m9 p1 F4 => ?_)
    · rw [ups_s]
      exact ⟨rfl, rfl, dp_0⟩
    · rw [ups_n (by omega), ups_s, R2]
      exact ⟨hse, by rw [hqn]; exact rq.2.1, by rw [hqd]; exact rq.2.2⟩
    · have l9 : 1000000000 ≤ 1000000000 ^ 9 := by decide +kernel
      have l1 : 1 < 1000000000 ^ 9 := by decide +kernel
      exact ⟨Nat.lt_of_lt_of_le (show ((k : Int)).natAbs < 1000000000 by omega) l9, l1⟩
    · have Fa := ((F1.trans k2).trans F3).trans F4
      have Rj : ∀ j, ¬ (2 ≤ j ∧ j ≤ 5) → R4 j = R j := fun j hj => by rw [p1 j (by omega) (by omega), ups_n (by omega), ups_n (by omega), Ro j (by omega)]
      by_cases c : En ws q k
      · have e1 : ¬ cq (qn k) (if ws = 0 then qab q else q) < 0 := i_nlt.mpr (cq_neg.mpr (En_iff.mp c))
        simp only [u_140_47, u_140_50, u_140_51, u_140_54, u_140_55, u_140_55_0, u_140_55_1, pm_O_some, pm_w_nil, pm_w_i, pm_w_l, pm_w_r, pm_w_n, pm_c_n, pm_c_i, pm_c_l, pm_c_r, pm_c_u, Nat.reduceAdd, Nat.reduceLeDiff, true_and, Option.toList_some, Option.toList_none, List.cons_append, List.nil_append, if_neg e1]
        exact hQ h4 R4 1 m9 (Or.inl ⟨rfl, c⟩) Rj Fa
      · have e1 : cq (qn k) (if ws = 0 then qab q else q) < 0 := i_nle.mp (fun z => c (En_iff.mpr (cq_neg.mp z)))
        simp only [u_140_47, u_140_50, u_140_51, u_140_54, u_140_55, u_140_55_0, u_140_55_1, pm_O_some, pm_w_nil, pm_w_i, pm_w_l, pm_w_r, pm_w_n, pm_c_n, pm_c_i, pm_c_l, pm_c_r, pm_c_u, Nat.reduceAdd, Nat.reduceLeDiff, true_and, Option.toList_some, Option.toList_none, List.cons_append, List.nil_append, if_pos e1]
        exact hQ h4 R4 0 m9 (Or.inr ⟨rfl, c⟩) Rj Fa
  by_cases w0 : ws = 0
  · have w0' : ¬ ¬ ws = 0 := fun z => z w0
    by_cases s0 : sg q.num = 0
    · have s0' : ¬ ¬ sg q.num = 0 := fun z => z s0
      simp only [u_140_6, u_140_6n, u_140_7, u_140_10, u_140_11, u_140_12, u_140_15, u_140_15n, u_140_16, u_140_19, u_140_20, u_140_21, u_140_24, u_140_24n, u_140_25, u_140_28, u_140_29, u_140_30, u_140_33, u_140_34, pm_O_some, pm_w_nil, pm_w_i, pm_w_l, pm_w_r, pm_w_n, pm_c_n, pm_c_i, pm_c_l, pm_c_r, pm_c_u, Nat.reduceAdd, Nat.reduceLeDiff, true_and, Option.toList_some, Option.toList_none, List.cons_append, List.nil_append, z1.f29, a3, ld8 (k := 2) (x := 2) (by omega) rfl, f2, if_neg w0', if_neg s0', st8]
      refine fin _ ?_
      rw [if_pos w0]
      show sg q.num = sg (q.num.natAbs : Int)
      rw [sg_0.mp s0]
      rfl
    · simp only [u_140_6, u_140_6n, u_140_7, u_140_10, u_140_11, u_140_12, u_140_15, u_140_15n, u_140_16, u_140_19, u_140_20, u_140_21, u_140_24, u_140_24n, u_140_25, u_140_28, u_140_29, u_140_30, u_140_33, u_140_34, pm_O_some, pm_w_nil, pm_w_i, pm_w_l, pm_w_r, pm_w_n, pm_c_n, pm_c_i, pm_c_l, pm_c_r, pm_c_u, Nat.reduceAdd, Nat.reduceLeDiff, true_and, Option.toList_some, Option.toList_none, List.cons_append, List.nil_append, z1.f29, a3, ld8 (k := 2) (x := 2) (by omega) rfl, f2, if_neg w0', if_pos s0, st8]
      refine fin _ ?_
      rw [if_pos w0]
      show 1 = sg (q.num.natAbs : Int)
      rw [sg_p]
      have := mt sg_0.mpr s0
      omega
  · simp only [u_140_6, u_140_6n, u_140_7, u_140_10, u_140_11, u_140_12, u_140_15, u_140_15n, u_140_16, u_140_19, u_140_20, u_140_21, u_140_24, u_140_24n, u_140_25, u_140_28, u_140_29, u_140_30, u_140_33, u_140_34, pm_O_some, pm_w_nil, pm_w_i, pm_w_l, pm_w_r, pm_w_n, pm_c_n, pm_c_i, pm_c_l, pm_c_r, pm_c_u, Nat.reduceAdd, Nat.reduceLeDiff, true_and, Option.toList_some, Option.toList_none, List.cons_append, List.nil_append, z1.f29, a3, ld8 (k := 2) (x := 2) (by omega) rfl, f2, if_pos w0, st8]
    refine fin _ ?_
    rw [if_neg w0]
theorem hld_En {q0 q1 q2 : Rat} {u v : Nat} : hld q0 q1 q2 u v ↔ (En 0 q0 u ∧ En 0 q1 u ∧ En 1 q2 v) := by
  unfold hld En
  constructor
  · intro z
    exact ⟨⟨fun _ => z.1, fun y => absurd rfl y⟩, ⟨fun _ => z.2.1, fun y => absurd rfl y⟩, ⟨fun y => absurd y (by decide), fun _ => z.2.2⟩⟩
  · intro z
    exact ⟨z.1.1 rfl, z.2.1.1 rfl, z.2.2.2 (by decide)⟩
theorem r_best (so : SO n bs ln tx nr sz tm nd dy nl lm ll jk) (n1 : MI B h m n bs ln tx nr sz tm nd dy nl lm ll jk) (hg : vb n b → ∀ h', MI B h' m n bs ln tx nr sz tm nd dy nl lm ll jk → Frm B h h' m (m + 24) → Q (some (.int (bst (nq (bs (ix b)) nr sz tm 0) (nq (bs (ix b)) nr sz tm 1) (nq (bs (ix b)) nr sz tm 2) lm ll nl))) h') (hb : ¬ vb n b → Q (some (.int (-1))) h) :
    PW B X 139 0 [some (.ref m), some (.int b), none, none, none, none] [] h Q := by
  have hn := so.1.1
  have hnl := so.2.2.2.2.1
  obtain ⟨⟨x8, x9, x13, jh, jm, x31, x32, c, cj⟩, _⟩ := id n1
  by_cases h1 : ¬ (0 ≤ b.toInt ∧ b.toInt < (n : Int))
  · simp only [u_139_0, u_139_0n, u_139_1, u_139_2, u_139_5, u_139_8, u_139_9, pm_O_some, pm_w_nil, pm_w_i, pm_w_l, pm_w_r, pm_w_n, pm_c_n, pm_c_i, pm_c_l, pm_c_r, pm_c_u, Nat.reduceAdd, Nat.reduceLeDiff, true_and, Option.toList_some, Option.toList_none, List.cons_append, List.nil_append, c.io, s_isB c hn, one0, ite_not, if_neg h1]
    exact hb h1
  replace h1 := Decidable.not_not.mp h1
  have hg2 := hg h1
  obtain ⟨i, hi, hbi, hxi⟩ := vb_e hn h1
  rw [hxi] at hg2
  simp only [u_139_0, u_139_0n, u_139_1, u_139_2, u_139_5, pm_O_some, pm_w_nil, pm_w_i, pm_w_l, pm_w_r, pm_w_n, pm_c_n, pm_c_i, pm_c_l, pm_c_r, pm_c_u, Nat.reduceAdd, Nat.reduceLeDiff, true_and, Option.toList_some, Option.toList_none, List.cons_append, List.nil_append, c.io, s_isB c hn, one0, ite_not, if_pos h1]
  rw [hbi]
  generalize hq0 : nq (bs i) nr sz tm 0 = q0 at hg2
  generalize hq1 : nq (bs i) nr sz tm 1 = q1 at hg2
  generalize hq2 : nq (bs i) nr sz tm 2 = q2 at hg2
  have loop : ∀ d k hc w4 w5, k + d = nl → MI B hc m n bs ln tx nr sz tm nd dy nl lm ll jk → Frm B h hc m (m + 24) → PW B X 139 14 [some (.ref m), some (.int (nI i)), some (.int (bst q0 q1 q2 lm ll k)), some (.int (nI k)), w4, w5] [] hc Q := by
    intro d
    induction d with
    | zero =>
      intro k hc w4 w5 hk mi F
      obtain rfl : k = nl := by omega
      obtain ⟨⟨x8, x9, x13, jh, jm, x31, x32, c, cj⟩, _⟩ := id mi
      have e1 : nI k ≤ nI k := nI_le (Nat.le_refl _) (by omega)
      simp only [u_139_14, u_139_15, u_139_15n, u_139_16, u_139_19, u_139_173, u_139_174, pm_O_some, pm_w_nil, pm_w_i, pm_w_l, pm_w_r, pm_w_n, pm_c_n, pm_c_i, pm_c_l, pm_c_r, pm_c_u, Nat.reduceAdd, Nat.reduceLeDiff, true_and, Option.toList_some, Option.toList_none, List.cons_append, List.nil_append, c.g21, if_pos e1]
      exact hg2 hc mi F
    | succ d ih =>
      intro k hc w4 w5 hk mi F
      have hk1 : k < nl := by omega
      have e1 : ¬ nI nl ≤ nI k := nI_ge hk1 (by omega)
      obtain ⟨hlm, hll⟩ := hnl.2 k hk1
      -- from 94 on
      have fin : ∀ hc x w5, ((x = 1 ∧ hld q0 q1 q2 (lm k) (ll k)) ∨ (x = 0 ∧ ¬ hld q0 q1 q2 (lm k) (ll k))) → MI B hc m n bs ln tx nr sz tm nd dy nl lm ll jk → Frm B h hc m (m + 24) → PW B X 139 94 [some (.ref m), some (.int (nI i)), some (.int (bst q0 q1 q2 lm ll k)), some (.int (nI k)), some (.int x), w5] [] hc Q := by
        intro hc x w5 hx mi F
        obtain ⟨⟨x8, x9, x13, jh, jm, x31, x32, c, cj⟩, _, _, _, _, _, _, _, ⟨fm, fl, b1, b2, b3⟩, _⟩ := id mi
        obtain ⟨k1, k2⟩ := b3 k hk1
        have nxt : ∀ y, ((y = 1 ∧ (bst q0 q1 q2 lm ll k = -1 ∨ lsr lm ll k (ix (bst q0 q1 q2 lm ll k)))) ∨ (y = 0 ∧ ¬ (bst q0 q1 q2 lm ll k = -1 ∨ lsr lm ll k (ix (bst q0 q1 q2 lm ll k))))) → PW B X 139 149 [some (.ref m), some (.int (nI i)), some (.int (bst q0 q1 q2 lm ll k)), some (.int (nI k)), some (.int x), w5] [.int y] hc Q := by
          intro y hy
          have := ih (k + 1) hc (some (.int x)) (some (.int y)) (by omega) mi F
          rcases hx with ⟨rfl, hx⟩ | ⟨rfl, hx⟩
          · rcases hy with ⟨rfl, hy⟩ | ⟨rfl, hy⟩
            · simp only [u_139_149, u_139_151, u_139_153, u_139_156, u_139_158, u_139_161, u_139_162, u_139_165, u_139_166, u_139_167, u_139_170, pm_O_some, pm_w_nil, pm_w_i, pm_w_l, pm_w_r, pm_w_n, pm_c_n, pm_c_i, pm_c_l, pm_c_r, pm_c_u, Nat.reduceAdd, Nat.reduceLeDiff, true_and, Option.toList_some, Option.toList_none, List.cons_append, List.nil_append, i10, if_false, nI_1]
              rw [bst_t hx hy] at this
              exact this
            · simp only [u_139_149, u_139_151, u_139_153, u_139_156, u_139_158, u_139_161, u_139_162, u_139_165, u_139_166, u_139_167, u_139_170, pm_O_some, pm_w_nil, pm_w_i, pm_w_l, pm_w_r, pm_w_n, pm_c_n, pm_c_i, pm_c_l, pm_c_r, pm_c_u, Nat.reduceAdd, Nat.reduceLeDiff, true_and, Option.toList_some, Option.toList_none, List.cons_append, List.nil_append, i10, i00, if_true, if_false, nI_1]
              rw [bst_f (fun z => hy z.2)] at this
              exact this
          · simp only [u_139_149, u_139_151, u_139_153, u_139_156, u_139_158, u_139_161, u_139_162, u_139_165, u_139_166, u_139_167, u_139_170, pm_O_some, pm_w_nil, pm_w_i, pm_w_l, pm_w_r, pm_w_n, pm_c_n, pm_c_i, pm_c_l, pm_c_r, pm_c_u, Nat.reduceAdd, Nat.reduceLeDiff, true_and, Option.toList_some, Option.toList_none, List.cons_append, List.nil_append, i00, if_true, nI_1]
            rw [bst_f (fun z => hx z.1)] at this
            exact this
        rcases bst_r (q0 := q0) (q1 := q1) (q2 := q2) (lm := lm) (ll := ll) k with z | ⟨j, hj, z⟩
        · rw [z] at nxt ⊢
          simp only [u_139_94, u_139_95, u_139_96, u_139_144, u_139_145, pm_O_some, pm_w_nil, pm_w_i, pm_w_l, pm_w_r, pm_w_n, pm_c_n, pm_c_i, pm_c_l, pm_c_r, pm_c_u, Nat.reduceAdd, Nat.reduceLeDiff, true_and, Option.toList_some, Option.toList_none, List.cons_append, List.nil_append, if_true]
          exact nxt 1 (Or.inl ⟨rfl, Or.inl rfl⟩)
        · have ez : ¬ nI j = -1 := nI_nm (by omega)
          obtain ⟨j1, j2⟩ := b3 j (by omega)
          obtain ⟨hlj, hlk⟩ := hnl.2 j (by omega)
          rw [z] at nxt ⊢
          rw [show ix (nI j) = j from nI_clamp (by omega)] at nxt
          unfold lsr at nxt
          by_cases l1 : ll k < ll j
          · have e2 : nI (ll k) < nI (ll j) := nI_lt l1 (by omega)
            simp only [u_139_94, u_139_95, u_139_96, u_139_99, u_139_99n, u_139_100, u_139_103, u_139_104, u_139_105, u_139_105n, u_139_106, u_139_109, u_139_110, u_139_111, u_139_144, u_139_145, pm_O_some, pm_w_nil, pm_w_i, pm_w_l, pm_w_r, pm_w_n, pm_c_n, pm_c_i, pm_c_l, pm_c_r, pm_c_u, Nat.reduceAdd, Nat.reduceLeDiff, true_and, Option.toList_some, Option.toList_none, List.cons_append, List.nil_append, ez, if_false, c.g23, b2, ld_i (t := 0) (ix_12 (show k < 12 by omega)) rfl, ld_i (t := 0) (ix_12 (show j < 12 by omega)) rfl, nI_clamp (show k < 2 ^ 31 by omega), nI_clamp (show j < 2 ^ 31 by omega), k2, j2, if_pos e2]
            exact nxt 1 (Or.inl ⟨rfl, Or.inr (Or.inl l1)⟩)
          · have e2 : ¬ nI (ll k) < nI (ll j) := nI_nlt (by omega) (by omega)
            by_cases l2 : ll k = ll j
            · have e3 : nI (ll k) = nI (ll j) := by rw [l2]
              have e3' : ¬ ¬ nI (ll k) = nI (ll j) := fun y => y e3
              by_cases l3 : lm k < lm j
              · have e4 : ¬ nI (lm j) ≤ nI (lm k) := nI_ge l3 (by omega)
                simp only [u_139_94, u_139_95, u_139_96, u_139_99, u_139_99n, u_139_100, u_139_103, u_139_104, u_139_105, u_139_105n, u_139_106, u_139_109, u_139_110, u_139_111, u_139_114, u_139_114n, u_139_115, u_139_118, u_139_119, u_139_120, u_139_120n, u_139_121, u_139_124, u_139_125, u_139_126, u_139_129, u_139_129n, u_139_130, u_139_133, u_139_134, u_139_135, u_139_135n, u_139_136, u_139_139, u_139_140, u_139_141, u_139_144, u_139_145, pm_O_some, pm_w_nil, pm_w_i, pm_w_l, pm_w_r, pm_w_n, pm_c_n, pm_c_i, pm_c_l, pm_c_r, pm_c_u, Nat.reduceAdd, Nat.reduceLeDiff, true_and, Option.toList_some, Option.toList_none, List.cons_append, List.nil_append, ez, if_false, c.g23, c.g22, b1, b2, ld_i (t := 0) (ix_12 (show k < 12 by omega)) rfl, ld_i (t := 0) (ix_12 (show j < 12 by omega)) rfl, nI_clamp (show k < 2 ^ 31 by omega), nI_clamp (show j < 2 ^ 31 by omega), k2, j2, k1, j1, if_neg e2, if_neg e3', if_neg e4]
                exact nxt 1 (Or.inl ⟨rfl, Or.inr (Or.inr ⟨l2, l3⟩)⟩)
              · have e4 : nI (lm j) ≤ nI (lm k) := nI_le (by omega) (by omega)
                simp only [u_139_94, u_139_95, u_139_96, u_139_99, u_139_99n, u_139_100, u_139_103, u_139_104, u_139_105, u_139_105n, u_139_106, u_139_109, u_139_110, u_139_111, u_139_114, u_139_114n, u_139_115, u_139_118, u_139_119, u_139_120, u_139_120n, u_139_121, u_139_124, u_139_125, u_139_126, u_139_129, u_139_129n, u_139_130, u_139_133, u_139_134, u_139_135, u_139_135n, u_139_136, u_139_139, u_139_140, u_139_141, u_139_144, u_139_145, u_139_148, pm_O_some, pm_w_nil, pm_w_i, pm_w_l, pm_w_r, pm_w_n, pm_c_n, pm_c_i, pm_c_l, pm_c_r, pm_c_u, Nat.reduceAdd, Nat.reduceLeDiff, true_and, Option.toList_some, Option.toList_none, List.cons_append, List.nil_append, ez, if_false, c.g23, c.g22, b1, b2, ld_i (t := 0) (ix_12 (show k < 12 by omega)) rfl, ld_i (t := 0) (ix_12 (show j < 12 by omega)) rfl, nI_clamp (show k < 2 ^ 31 by omega), nI_clamp (show j < 2 ^ 31 by omega), k2, j2, k1, j1, if_neg e2, if_neg e3', if_pos e4]
                exact nxt 0 (Or.inr ⟨rfl, fun y => y.elim ez (fun w => by omega)⟩)
            · have e3 : ¬ nI (ll k) = nI (ll j) := fun y => l2 ((nI_eq (by omega) (by omega)).mp y)
              simp only [u_139_94, u_139_95, u_139_96, u_139_99, u_139_99n, u_139_100, u_139_103, u_139_104, u_139_105, u_139_105n, u_139_106, u_139_109, u_139_110, u_139_111, u_139_114, u_139_114n, u_139_115, u_139_118, u_139_119, u_139_120, u_139_120n, u_139_121, u_139_124, u_139_125, u_139_126, u_139_148, pm_O_some, pm_w_nil, pm_w_i, pm_w_l, pm_w_r, pm_w_n, pm_c_n, pm_c_i, pm_c_l, pm_c_r, pm_c_u, Nat.reduceAdd, Nat.reduceLeDiff, true_and, Option.toList_some, Option.toList_none, List.cons_append, List.nil_append, ez, if_false, c.g23, b2, ld_i (t := 0) (ix_12 (show k < 12 by omega)) rfl, ld_i (t := 0) (ix_12 (show j < 12 by omega)) rfl, nI_clamp (show k < 2 ^ 31 by omega), nI_clamp (show j < 2 ^ 31 by omega), k2, j2, if_neg e2, if_pos e3]
              exact nxt 0 (Or.inr ⟨rfl, fun y => y.elim ez (fun w => by omega)⟩)
      -- one axis
      have axis : ∀ a hc, a < 2 → MI B hc m n bs ln tx nr sz tm nd dy nl lm ll jk → Frm B h hc m (m + 24) → (∀ h' x, ((x = 1 ∧ En 0 (nq (bs i) nr sz tm a) (lm k)) ∨ (x = 0 ∧ ¬ En 0 (nq (bs i) nr sz tm a) (lm k))) → MI B h' m n bs ln tx nr sz tm nd dy nl lm ll jk → Frm B h h' m (m + 24) → PW B X 139 28 [some (.ref m), some (.int (nI i)), some (.int (bst q0 q1 q2 lm ll k)), some (.int (nI k)), some (.int x), some (.int (nI (a + 1)))] [] h' Q) → PW B X 139 28 [some (.ref m), some (.int (nI i)), some (.int (bst q0 q1 q2 lm ll k)), some (.int (nI k)), some (.int 1), some (.int (nI a))] [] hc Q := by
        intro a hc ha mi F nx
        obtain ⟨R, ns⟩ : ∃ R, NS B hc m R := mi.2.2.2.2.2.2.2.2.2.2.2.2
        have e2 : ¬ (2 : Int32) ≤ nI a := nI_ge (b := 2) ha (by decide)
        obtain ⟨s1, s2⟩ := LM_s so hi (show a < 3 by omega) (Nat.le_refl nr)
        have hnq : nq (bs i) nr sz tm a = wq (LM (bs i) nr sz tm a).1 (GM (bs i) nr sz tm a).1 2 := if_neg (by omega)
        have ssm : sm7 (wq (LM (bs i) nr sz tm a).1 (GM (bs i) nr sz tm a).1 2) := by
          unfold wq
          rw [if_neg (by omega), if_neg (by omega)]
          split
          · exact s1
          · exact s2
        rw [hnq] at nx
        rw [u_139_28]
        simp only [u_139_30, u_139_31, u_139_34, u_139_36, u_139_39, u_139_39n, u_139_40, u_139_41, u_139_43, pm_O_some, pm_w_nil, pm_w_i, pm_w_l, pm_w_r, pm_w_n, pm_c_n, pm_c_i, pm_c_l, pm_c_r, pm_c_u, Nat.reduceAdd, Nat.reduceLeDiff, true_and, Option.toList_some, Option.toList_none, List.cons_append, List.nil_append, if_neg e2, i10, if_false, mi.io]
        refine c_sumAll so mi ns hi (by omega) (fun h' R' y0 y7 y8 y9 y10 y13 y19 y21 y24 y25 mi2 m1 p1 p2 p3 c1 F1 => ?_)
        obtain ⟨_, _, _, _, _, _, _, _, ⟨fm, fl, b1, b2, b3⟩, _⟩ := id mi2
        simp only [u_139_46, u_139_46n, u_139_47, u_139_47n, u_139_48, u_139_51, u_139_52, u_139_53, u_139_53n, u_139_54, pm_O_some, pm_w_nil, pm_w_i, pm_w_l, pm_w_r, pm_w_n, pm_c_n, pm_c_i, pm_c_l, pm_c_r, pm_c_u, Nat.reduceAdd, Nat.reduceLeDiff, true_and, Option.toList_some, Option.toList_none, List.cons_append, List.nil_append, c1.io, c1.g22, b1, ld_i (t := 0) (ix_12 (show k < 12 by omega)) rfl, nI_clamp (show k < 2 ^ 31 by omega), (b3 k hk1).1]
        refine c_worst m1 p1 p2 s1.s9 s2.s9 (fun h3 R3 v m2 hv p4 p5 F2 => ?_)
        simp only [u_139_57, u_139_58, pm_O_some, pm_w_nil, pm_w_i, pm_w_l, pm_w_r, pm_w_n, pm_c_n, pm_c_i, pm_c_l, pm_c_r, pm_c_u, Nat.reduceAdd, Nat.reduceLeDiff, true_and, Option.toList_some, Option.toList_none, List.cons_append, List.nil_append, m2.io]
        refine c_isEnough m2 p4 ssm (by omega) (by omega) (fun h4 R4 x m3 hx p6 F3 => ?_)
        simp only [u_139_61, u_139_63, u_139_66, pm_O_some, pm_w_nil, pm_w_i, pm_w_l, pm_w_r, pm_w_n, pm_c_n, pm_c_i, pm_c_l, pm_c_r, pm_c_u, Nat.reduceAdd, Nat.reduceLeDiff, true_and, Option.toList_some, Option.toList_none, List.cons_append, List.nil_append, nI_1]
        exact nx h4 x hx ((mi2.regs F2.fx m2).regs F3.fx m3) (((F.trans F1.fm).trans (F2.mono (by omega) (by omega))).trans (F3.mono (by omega) (by omega)))
      obtain ⟨⟨x8, x9, x13, jh, jm, x31, x32, c, cj⟩, _⟩ := id mi
      rw [u_139_14]
      simp only [u_139_15, u_139_15n, u_139_16, u_139_19, u_139_22, u_139_23, u_139_25, u_139_26, pm_O_some, pm_w_nil, pm_w_i, pm_w_l, pm_w_r, pm_w_n, pm_c_n, pm_c_i, pm_c_l, pm_c_r, pm_c_u, Nat.reduceAdd, Nat.reduceLeDiff, true_and, Option.toList_some, Option.toList_none, List.cons_append, List.nil_append, c.g21, if_neg e1]
      refine axis 0 hc (by omega) mi F (fun hA x hx mA FA => ?_)
      rw [hq0] at hx
      rcases hx with ⟨rfl, hx⟩ | ⟨rfl, hx⟩
      · refine axis 1 hA (by omega) mA FA (fun hB x hy mB FB => ?_)
        rw [hq1] at hy
        have e2 : (2 : Int32) ≤ nI (1 + 1) := by decide
        rcases hy with ⟨rfl, hy⟩ | ⟨rfl, hy⟩
        · obtain ⟨R, ns⟩ : ∃ R, NS B hB m R := mB.2.2.2.2.2.2.2.2.2.2.2.2
          obtain ⟨s1, s2⟩ := LM_s so hi (show 2 < 3 by omega) (Nat.le_refl nr)
          have hnq : q2 = (GM (bs i) nr sz tm 2).1 := by rw [← hq2]; exact if_pos rfl
          simp only [u_139_28, u_139_30, u_139_31, u_139_69, u_139_71, u_139_74, u_139_74n, u_139_75, u_139_76, u_139_77, pm_O_some, pm_w_nil, pm_w_i, pm_w_l, pm_w_r, pm_w_n, pm_c_n, pm_c_i, pm_c_l, pm_c_r, pm_c_u, Nat.reduceAdd, Nat.reduceLeDiff, true_and, Option.toList_some, Option.toList_none, List.cons_append, List.nil_append, if_pos e2, i10, if_false, mB.io]
          refine c_sumAll (a := 2) so mB ns hi (by omega) (fun h' R' y0 y7 y8 y9 y10 y13 y19 y21 y24 y25 mi2 m1 p1 p2 p3 c1 F1 => ?_)
          obtain ⟨_, _, _, _, _, _, _, _, ⟨fm, fl, b1, b2, b3⟩, _⟩ := id mi2
          simp only [u_139_80, u_139_80n, u_139_81, u_139_81n, u_139_82, u_139_85, u_139_86, u_139_87, u_139_88, u_139_89, pm_O_some, pm_w_nil, pm_w_i, pm_w_l, pm_w_r, pm_w_n, pm_c_n, pm_c_i, pm_c_l, pm_c_r, pm_c_u, Nat.reduceAdd, Nat.reduceLeDiff, true_and, Option.toList_some, Option.toList_none, List.cons_append, List.nil_append, c1.io, c1.g23, b2, ld_i (t := 0) (ix_12 (show k < 12 by omega)) rfl, nI_clamp (show k < 2 ^ 31 by omega), (b3 k hk1).2]
          refine c_isEnough (r := 1) m1 p2 s2 (by omega) (by omega) (fun h4 R4 x m3 hz p6 F3 => ?_)
          rw [← hnq] at hz
          simp only [u_139_92, pm_O_some, pm_w_nil, pm_w_i, pm_w_l, pm_w_r, pm_w_n, pm_c_n, pm_c_i, pm_c_l, pm_c_r, pm_c_u, Nat.reduceAdd, Nat.reduceLeDiff, true_and, Option.toList_some, Option.toList_none, List.cons_append, List.nil_append]
          refine fin h4 x _ ?_ (mi2.regs F3.fx m3) ((FB.trans F1.fm).trans (F3.mono (by omega) (by omega)))
          rcases hz with ⟨rfl, hz⟩ | ⟨rfl, hz⟩
          · exact Or.inl ⟨rfl, hld_En.mpr ⟨hx, hy, hz⟩⟩
          · exact Or.inr ⟨rfl, fun w => hz (hld_En.mp w).2.2⟩
        · simp only [u_139_28, u_139_30, u_139_31, u_139_69, u_139_71, pm_O_some, pm_w_nil, pm_w_i, pm_w_l, pm_w_r, pm_w_n, pm_c_n, pm_c_i, pm_c_l, pm_c_r, pm_c_u, Nat.reduceAdd, Nat.reduceLeDiff, true_and, Option.toList_some, Option.toList_none, List.cons_append, List.nil_append, if_pos e2, i00, if_true]
          exact fin hB 0 _ (Or.inr ⟨rfl, fun w => hy (hld_En.mp w).2.1⟩) mB FB
      · have e2 : ¬ (2 : Int32) ≤ nI (0 + 1) := by decide
        simp only [u_139_28, u_139_30, u_139_31, u_139_34, u_139_36, u_139_69, u_139_71, pm_O_some, pm_w_nil, pm_w_i, pm_w_l, pm_w_r, pm_w_n, pm_c_n, pm_c_i, pm_c_l, pm_c_r, pm_c_u, Nat.reduceAdd, Nat.reduceLeDiff, true_and, Option.toList_some, Option.toList_none, List.cons_append, List.nil_append, if_neg e2, i00, if_true]
        exact fin hA 0 _ (Or.inr ⟨rfl, fun w => hx (hld_En.mp w).1⟩) mA FA
  simp only [u_139_10, u_139_11, u_139_12, u_139_13, pm_O_some, pm_w_nil, pm_w_i, pm_w_l, pm_w_r, pm_w_n, pm_c_n, pm_c_i, pm_c_l, pm_c_r, pm_c_u, Nat.reduceAdd, Nat.reduceLeDiff, true_and, Option.toList_some, Option.toList_none, List.cons_append, List.nil_append]
  exact loop nl 0 h none none (by omega) n1 Frm.rfl'
end BES

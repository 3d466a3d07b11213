/-! REGISTERS: add, compare. -/
def rgq (g : Rg) (q : Rat) : Prop := g.1 = sg q.num ∧ g.2.1 = q.num.natAbs ∧ dp g.2.2 168 = q.den
theorem nv_z {g : Nat → Int64} {u : Nat} : ∀ {v : Nat}, u ≤ v → (∀ k, u ≤ k → k < v → g k = 0) → nv g v = nv g u
  | 0, h, _ => by obtain rfl : u = 0 := by omega
                  rfl
  | v + 1, h, hz => by
    by_cases e : u = v + 1
    · rw [e]
    · rw [nv, dg_0 (hz v (by omega) (by omega)), Nat.zero_mul, Nat.add_zero]
      exact nv_z (by omega) (fun k k1 k2 => hz k k1 (by omega))
theorem RV.all {g : Nat → Int64} {u V : Nat} (z : RV g u V) : lok g 40 := by
  obtain ⟨v1, v2, v3, v4, v5⟩ := z
  intro i hi
  by_cases c : i < u
  · exact v2 i c
  · have e := v5 i (by omega) hi
    rw [dg_0 e]
    exact ⟨e, by decide⟩
theorem RV.ge {g : Nat → Int64} {u V n : Nat} (z : RV g u V) (h1 : u ≤ n) (h2 : n ≤ 40) : nv g n = V := by
  obtain ⟨v1, v2, v3, v4, v5⟩ := z
  rw [nv_z h1 (fun k k1 k2 => v5 k k1 (by omega)), v4]
theorem lI_ge0 {v : Int} (h1 : -2 ^ 62 < v) (h2 : v < 2 ^ 62) : (0 : Int64) ≤ lI v ↔ 0 ≤ v := by
  rw [Int64.le_iff_toInt_le, lI_T (by omega) (by omega)]
  exact Iff.rfl
theorem sum_sg {a b : Int} (h : b.natAbs ≤ a.natAbs) : (sg a * sg b < 0 → (a + b).natAbs = a.natAbs - b.natAbs) ∧ (¬ sg a * sg b < 0 → (a + b).natAbs = a.natAbs + b.natAbs) ∧ sg (a + b) = if (a + b).natAbs = 0 then 0 else sg a := by
  have n1 : ∀ {z : Int}, z < 0 → sg z = -1 := fun hz => if_pos hz
  have n0 : sg 0 = 0 := rfl
  have p1 : ∀ {z : Int}, 0 < z → sg z = 1 := fun hz => by unfold sg; rw [if_neg (by omega), if_neg (by omega)]
  have d1 : (-1 : Int32) * -1 < 0 ↔ False := by decide
  have d2 : (-1 : Int32) * 0 < 0 ↔ False := by decide
  have d3 : (-1 : Int32) * 1 < 0 ↔ True := by decide
  have d4 : (0 : Int32) * 0 < 0 ↔ False := by decide
  have d5 : (1 : Int32) * -1 < 0 ↔ True := by decide
  have d6 : (1 : Int32) * 0 < 0 ↔ False := by decide
  have d7 : (1 : Int32) * 1 < 0 ↔ False := by decide
  have key : sg (a + b) = if (a + b).natAbs = 0 then 0 else sg a := by
    by_cases c : (a + b).natAbs = 0
    · rw [if_pos c, show a + b = 0 by omega]; rfl
    · rw [if_neg c]
      rcases Int.lt_trichotomy a 0 with z | z | z
      · rw [n1 z, n1 (by omega)]
      · omega
      · rw [p1 z, p1 (by omega)]
  rcases Int.lt_trichotomy a 0 with z | z | z <;> rcases Int.lt_trichotomy b 0 with y | y | y
  · rw [n1 z, n1 y, ← n1 z, ← key, n1 z, d1]
    exact ⟨False.elim, fun _ => by omega, rfl⟩
  · subst y
    rw [n0, n1 z, ← n1 z, ← key, n1 z, d2]
    exact ⟨False.elim, fun _ => by omega, rfl⟩
  · rw [n1 z, p1 y, ← n1 z, ← key, n1 z, d3]
    exact ⟨fun _ => by omega, fun c => absurd trivial c, rfl⟩
  · omega
  · subst y
    subst z
    exact ⟨fun c => absurd c (by decide), fun _ => rfl, rfl⟩
  · omega
  · rw [p1 z, n1 y, ← p1 z, ← key, p1 z, d5]
    exact ⟨fun _ => by omega, fun c => absurd trivial c, rfl⟩
  · subst y
    rw [n0, p1 z, ← p1 z, ← key, p1 z, d6]
    exact ⟨False.elim, fun _ => by omega, rfl⟩
  · rw [p1 z, p1 y, ← p1 z, ← key, p1 z, d7]
    exact ⟨False.elim, fun _ => by omega, rfl⟩
theorem sgn_of {U L R : Nat} {D : Int} (hL : 0 < L) (he : U * R = D.natAbs * L) (hR : 0 < R) : ∃ n : Int, n.natAbs = U ∧ n * R = D * L ∧ sg n = sg D := by
  have hU : D = 0 ↔ U = 0 := by
    constructor
    · intro e
      subst e
      rw [Int.natAbs_zero, Nat.zero_mul] at he
      exact (Nat.mul_eq_zero.mp he).resolve_right (by omega)
    · intro e
      subst e
      rw [Nat.zero_mul] at he
      have := (Nat.mul_eq_zero.mp he.symm).resolve_right (by omega)
      omega
  have h2 : ((U * R : Nat) : Int) = ((D.natAbs * L : Nat) : Int) := by rw [he]
  rw [Int.natCast_mul, Int.natCast_mul] at h2
  rcases (show D < 0 ∨ 0 ≤ D by omega) with z | z
  · refine ⟨-(U : Int), by simp, ?_, ?_⟩
    · have h1 : (D.natAbs : Int) = -D := by omega
      rw [h1, Int.neg_mul] at h2
      rw [Int.neg_mul, h2, Int.neg_neg]
    · unfold sg
      rw [if_pos (by omega), if_pos z]
  · refine ⟨(U : Int), by simp, ?_, ?_⟩
    · have h1 : (D.natAbs : Int) = D := by omega
      rw [h1] at h2
      exact h2
    · unfold sg
      rw [if_neg (show ¬ (U : Int) < 0 by omega), if_neg (show ¬ D < 0 by omega)]
      by_cases c : D = 0
      · rw [if_pos c, if_pos (show (U : Int) = 0 by have := hU.mp c; omega)]
      · rw [if_neg c, if_neg (show ¬ (U : Int) = 0 by intro e; exact c (hU.mpr (by omega)))]
theorem ci_scale {N M a b c d D : Nat} (h1 : N * a = c * D) (h2 : M * b = d * D) (ha : 0 < a) (hb : 0 < b) (hD : 0 < D) : ci N M = ci (c * b) (d * a) := by
  have hab : 0 < a * b := Nat.mul_pos ha hb
  have e1 : N * (a * b) = (c * b) * D := by rw [← Nat.mul_assoc, h1, Nat.mul_right_comm]
  have e2 : M * (a * b) = (d * a) * D := by rw [Nat.mul_comm a b, ← Nat.mul_assoc, h2, Nat.mul_right_comm]
  have l1 : (N < M) ↔ (c * b < d * a) := by
    rw [← Nat.mul_lt_mul_right hab, e1, e2, Nat.mul_lt_mul_right hD]
  have l2 : (N = M) ↔ (c * b = d * a) := by
    constructor
    · intro e
      refine Nat.eq_of_mul_eq_mul_right hD ?_
      rw [← e1, ← e2, e]
    · intro e
      refine Nat.eq_of_mul_eq_mul_right hab ?_
      rw [e1, e2, e]
  unfold ci
  by_cases c1 : N < M
  · rw [if_pos c1, if_pos (l1.mp c1)]
  · rw [if_neg c1, if_neg (mt l1.mpr c1)]
    by_cases c2 : N = M
    · rw [if_pos c2, if_pos (l2.mp c2)]
    · rw [if_neg c2, if_neg (mt l2.mpr c2)]
theorem ld8 {fs : Nat → Int32} {k : Nat} {x : Int32} (hk : k < 8) (hx : x = nI k) : pm_ldi 0 (some (.inl (0, 8, .inl fs))) x = some (.int (fs k)) := by
  rw [hx, ld_i (t := 0) (ix_8 hk) rfl, nI_clamp (by omega)]
section ADS
variable {B : Nat} {X : pm_X} {h h' : pm_H} {Q : Option Value → pm_H → Prop} {m a b k n bg sl : Nat} {fl f : Nat → Int64} {fu fs fw : Nat → Int32} {g : Rg} {R R' : Nat → Rg}
theorem z_addl {σ : Int} {sf : Int32} {T : Nat} {w10 w11 : Option Value} (n1 : NA B h m (fill fl (40 * bg) 40 f) (upd fu bg (nI n)) fs fw) (hbg : bg < 8) (hsl : sl < 8) (hne : ¬ bg = sl) (hn : n ≤ 40) (hl : lok f n) (hz : ∀ k, n ≤ k → k < 40 → f k = 0) (hg : lok (fun k => fl (40 * sl + k)) 40) (hσ : (σ = 1 ∧ sf = 1) ∨ (σ = -1 ∧ sf = 0)) (hT : (T : Int) = (nv f n : Int) + σ * (nv (fun k => fl (40 * sl + k)) n : Int)) (hT2 : T < 1000000000 ^ 40)
    (hQ : ∀ h' g u c w9 w10 w11, NA B h' m (fill fl (40 * bg) 40 g) (upd fu bg (nI u)) fs fw → Frm B h h' (m + 18) (m + 22) → u ≤ 40 → lok g u → nv g u = T → (∀ k, u ≤ k → k < 40 → g k = 0) → PW B X 117 233 [some (.ref m), some (.int 2), some (.int 3), some (.int sf), some (.int (nI bg)), some (.int (nI sl)), some (.int (nI n)), some (.long c), none, w9, w10, w11] [] h' Q) :
    PW B X 117 78 [some (.ref m), some (.int 2), some (.int 3), some (.int sf), some (.int (nI bg)), some (.int (nI sl)), some (.int (nI n)), some (.long 0), none, some (.int 0), w10, w11] [] h Q := by
  have loop : ∀ d i c fi w10 w11 hc, i + d = n → (-1 ≤ c ∧ c ≤ 1) → lok fi n → (∀ j, i ≤ j → j < 40 → fi j = f j) → (nv fi i : Int) + c * ((1000000000 ^ i : Nat) : Int) = (nv f i : Int) + σ * (nv (fun k => fl (40 * sl + k)) i : Int) → NA B hc m (fill fl (40 * bg) 40 fi) (upd fu bg (nI n)) fs fw → Frm B h hc (m + 18) (m + 22) →
      PW B X 117 78 [some (.ref m), some (.int 2), some (.int 3), some (.int sf), some (.int (nI bg)), some (.int (nI sl)), some (.int (nI n)), some (.long (lI c)), none, some (.int (nI i)), w10, w11] [] hc Q := by
    intro d
    induction d with
    | zero =>
      intro i c fi w10 w11 hc hi hcl hfi hs hv m1 m2
      obtain rfl : i = n := by omega
      have e2 : nI i ≤ nI i := nI_le (Nat.le_refl _) (by omega)
      have a1 := m1.2.2.1
      have a2 := m1.2.2.2.1
      have hlt := nv_lt (f := fi) (n := i) (fun j hj => (hfi j hj).2)
      rw [← hT] at hv
      have c0 : 0 ≤ c := by
        rcases (show c = -1 ∨ 0 ≤ c by omega) with z | z
        · subst z
          rw [Int.neg_one_mul] at hv
          omega
        · exact z
      by_cases hc0 : c = 0
      · subst hc0
        have e3 : lI 0 ≤ 0 := by decide
        simp only [u_117_78, u_117_80, u_117_82, u_117_200, u_117_202, u_117_203, u_117_204, pm_O_some, pm_w_nil, pm_w_i, pm_w_l, pm_w_r, pm_w_n, pm_c_n, pm_c_i, pm_c_l, pm_c_r, pm_c_u, Nat.reduceAdd, Nat.reduceLeDiff, true_and, Option.toList_some, Option.toList_none, List.cons_append, List.nil_append, if_pos e2, lg_cmp_le, if_pos e3]
        exact hQ hc fi i _ _ _ _ m1 m2 hn hfi (by rw [Int.zero_mul] at hv; omega) (fun k k1 k2 => by rw [hs k k1 k2]; exact hz k k1 k2)
      · obtain rfl : c = 1 := by omega
        have e3 : ¬ lI 1 ≤ 0 := by decide
        rw [Int.one_mul] at hv
        have hi40 : i < 40 := by
          rcases Nat.lt_or_ge i 40 with z | z
          · exact z
          · obtain rfl : i = 40 := by omega
            omega
        simp only [u_117_78, u_117_80, u_117_82, u_117_200, u_117_202, u_117_203, u_117_204, u_117_207, u_117_207n, u_117_208, u_117_211, u_117_213, u_117_215, u_117_216, u_117_218, u_117_219, u_117_221, pm_O_some, pm_w_nil, pm_w_i, pm_w_l, pm_w_r, pm_w_n, pm_c_n, pm_c_i, pm_c_l, pm_c_r, pm_c_u, Nat.reduceAdd, Nat.reduceLeDiff, true_and, Option.toList_some, Option.toList_none, List.cons_append, List.nil_append, if_pos e2, lg_cmp_le, if_neg e3, m1.f27, a1, x40, st_l (ix_320 (show 40 * bg + i < 320 by omega)), nI_clamp (show 40 * bg + i < 2 ^ 31 by omega), fq_up hi40]
        obtain ⟨y1, y2⟩ := m1.setl (fill fl (40 * bg) 40 (vp_updL fi i (lI 1)))
        have a3 := y1.2.2.2.1
        simp only [u_117_222, u_117_222n, u_117_223, u_117_226, u_117_228, u_117_230, u_117_231, u_117_232, pm_O_some, pm_w_nil, pm_w_i, pm_w_l, pm_w_r, pm_w_n, pm_c_n, pm_c_i, pm_c_l, pm_c_r, pm_c_u, Nat.reduceAdd, Nat.reduceLeDiff, true_and, Option.toList_some, Option.toList_none, List.cons_append, List.nil_append, y1.f28, a3, st_i (t := 0) (ix_8 hbg) rfl, ty_0, nI_clamp (show bg < 2 ^ 31 by omega), nI_1, upd_upd]
        obtain ⟨w1, w2⟩ := y1.setu (upd fu bg (nI (i + 1)))
        refine hQ _ _ (i + 1) _ _ _ _ w1 ((m2.trans y2).trans w2) hi40 (lok_push (d := 1) hfi (by decide)) ?_ (fun k k1 k2 => ?_)
        · show nv (vp_updL fi i (lN 1)) (i + 1) = T
          rw [nv, nv_up (Nat.le_refl _), dg_us (by omega), Nat.one_mul]
          omega
        · rw [pk_uLn (by omega), hs k (by omega) k2]
          exact hz k (by omega) k2
    | succ d ih =>
      intro i c fi w10 w11 hc hi hcl hfi hs hv m1 m2
      have hin : i < n := by omega
      have e2 : ¬ nI n ≤ nI i := nI_ge hin (by omega)
      have hd := hfi i hin
      have hd2 := hg i (by omega)
      have hdd : dg fi i = dg f i := dg_eq (hs i (Nat.le_refl _) (by omega))
      have a1 := m1.2.2.1
      have eo : fill fl (40 * bg) 40 fi (40 * sl + i) = fl (40 * sl + i) := fill_out (by omega)
      have t2 : fl (40 * sl + i) = lI (dg (fun k => fl (40 * sl + k)) i : Int) := by
        have := hd2.1
        rw [lI_N]
        exact this
      have t1 : fi i = lI (dg fi i : Int) := by rw [lI_N]; exact hd.1
      generalize hx : dg (fun k => fl (40 * sl + k)) i = x at *
      -- the value
      have hvx : ∃ v : Int, v = (dg fi i : Int) + σ * (x : Int) + c := ⟨_, rfl⟩
      obtain ⟨v, hvv⟩ := hvx
      have hvb : -1000000000 ≤ v ∧ v < 2 * 1000000000 := by
        have k1 := hd.2
        have k2 := hd2.2
        rcases hσ with ⟨s1, _⟩ | ⟨s1, _⟩
        · subst s1
          rw [Int.one_mul] at hvv
          omega
        · subst s1
          rw [Int.neg_one_mul] at hvv
          omega
      have mid : ∀ w w', w + w' + lI c = lI v → PW B X 117 132 [some (.ref m), some (.int 2), some (.int 3), some (.int sf), some (.int (nI bg)), some (.int (nI sl)), some (.int (nI n)), some (.long (lI c)), none, some (.int (nI i)), w10, w11] [.long w', .long w] hc Q := by
        intro w w' hw
        have fin : ∀ c' z : Int, v = c' * 1000000000 + z → 0 ≤ z → z < 1000000000 → (-1 ≤ c' ∧ c' ≤ 1) → ∀ cl zl, cl = lI c' → zl = lI z → PW B X 117 78 [some (.ref m), some (.int 2), some (.int 3), some (.int sf), some (.int (nI bg)), some (.int (nI sl)), some (.int (nI n)), some (.long cl), none, some (.int (nI (i + 1))), some (.long (lI v)), none] [] (pm_set B hc (m + 18) (.inl (1, 320, .inr (.inl (fill fl (40 * bg) 40 (vp_updL fi i zl)))))) Q := by
          intro c' z hcz z0 z1 cb cl zl hcl hzl
          subst hcl
          subst hzl
          obtain ⟨zn, rfl⟩ : ∃ zn : Nat, z = (zn : Int) := ⟨z.toNat, by omega⟩
          rw [lI_N]
          obtain ⟨y1, y2⟩ := m1.setl (fill fl (40 * bg) 40 (vp_updL fi i (lN zn)))
          refine ih (i + 1) c' _ _ _ _ (by omega) cb (lok_up hfi (by omega)) (fun j h1 h2 => by rw [pk_uLn (by omega)]; exact hs j (by omega) h2) ?_ y1 (m2.trans y2)
          rw [nv, nv_up (Nat.le_refl _), dg_us (by omega), nv, nv, hx, ← hdd, Nat.pow_succ]
          simp only [Int.natCast_add, Int.natCast_mul]
          generalize ((1000000000 ^ i : Nat) : Int) = P at hv ⊢
          generalize (nv fi i : Int) = F1 at hv ⊢
          generalize (nv f i : Int) = F2 at hv ⊢
          generalize (nv (fun k => fl (40 * sl + k)) i : Int) = F3 at hv ⊢
          generalize (dg fi i : Int) = d1 at hvv ⊢
          rw [show ((1000000000 : Nat) : Int) = (1000000000 : Int) from rfl]
          have e7 : (zn : Int) * P + c' * (P * 1000000000) = (c' * 1000000000 + zn) * P := by
            rw [Int.add_mul, Int.mul_comm P, ← Int.mul_assoc]
            omega
          rw [Int.add_assoc, e7, ← hcz, hvv, Int.mul_add, Int.add_mul, Int.add_mul, Int.mul_assoc]
          omega
        by_cases cv : 0 ≤ v
        · obtain ⟨vn, rfl⟩ : ∃ vn : Nat, v = (vn : Int) := ⟨v.toNat, by omega⟩
          have e5 : (0 : Int64) ≤ lI (vn : Int) := (lI_ge0 (by omega) (by omega)).mpr cv
          simp only [u_117_132, u_117_133, u_117_135, u_117_136, u_117_138, u_117_140, u_117_141, u_117_142, u_117_145, u_117_148, u_117_151, u_117_153, u_117_156, u_117_157, u_117_159, u_117_159n, u_117_160, u_117_163, u_117_165, u_117_167, u_117_168, u_117_170, u_117_171, u_117_173, u_117_174, u_117_175, u_117_178, u_117_180, u_117_183, u_117_184, u_117_187, u_117_189, u_117_192, u_117_193, u_117_194, u_117_197, pm_O_some, pm_w_nil, pm_w_i, pm_w_l, pm_w_r, pm_w_n, pm_c_n, pm_c_i, pm_c_l, pm_c_r, pm_c_u, Nat.reduceAdd, Nat.reduceLeDiff, true_and, Option.toList_some, Option.toList_none, List.cons_append, List.nil_append, hw, lg_cmp_ge, if_pos e5, lB0, not_false_eq_true, m1.f27, a1, x40, st_l (ix_320 (show 40 * bg + i < 320 by omega)), nI_clamp (show 40 * bg + i < 2 ^ 31 by omega), fq_up (show i < 40 by omega), nI_1]
          refine fin ((vn / 1000000000 : Nat) : Int) ((vn % 1000000000 : Nat) : Int) (by omega) (by omega) (by omega) (by omega) _ _ ?_ ?_
          · rw [lI_N, lI_N, lB, pk_lDiv (by omega) (by decide) (by decide)]
          · rw [lI_N, lI_N, lB, pk_lRem (by omega) (by decide) (by decide)]
        · have e5 : ¬ (0 : Int64) ≤ lI v := mt (lI_ge0 (by omega) (by omega)).mp cv
          simp only [u_117_132, u_117_133, u_117_135, u_117_136, u_117_138, u_117_140, u_117_141, u_117_142, u_117_145, u_117_148, u_117_151, u_117_153, u_117_156, u_117_157, u_117_159, u_117_159n, u_117_160, u_117_163, u_117_165, u_117_167, u_117_168, u_117_170, u_117_171, u_117_173, u_117_174, u_117_175, u_117_178, u_117_180, u_117_183, u_117_184, u_117_187, u_117_189, u_117_192, u_117_193, u_117_194, u_117_197, pm_O_some, pm_w_nil, pm_w_i, pm_w_l, pm_w_r, pm_w_n, pm_c_n, pm_c_i, pm_c_l, pm_c_r, pm_c_u, Nat.reduceAdd, Nat.reduceLeDiff, true_and, Option.toList_some, Option.toList_none, List.cons_append, List.nil_append, hw, lg_cmp_ge, if_neg e5, m1.f27, a1, x40, st_l (ix_320 (show 40 * bg + i < 320 by omega)), nI_clamp (show 40 * bg + i < 2 ^ 31 by omega), fq_up (show i < 40 by omega), nI_1]
          refine fin (-1) (v + 1000000000) (by omega) (by omega) (by omega) (by omega) _ _ rfl ?_
          rw [lB, ← lI_N, lI_add]
          rfl
      rw [u_117_78]
      rcases hσ with ⟨s1, s2⟩ | ⟨s1, s2⟩
      · subst s2
        have e10 : ¬ (1 : Int32) = 0 := by decide
        simp only [u_117_80, u_117_82, u_117_85, u_117_85n, u_117_86, u_117_89, u_117_91, u_117_93, u_117_94, u_117_96, u_117_97, u_117_98, u_117_99, u_117_102, u_117_102n, u_117_103, u_117_106, u_117_108, u_117_110, u_117_111, u_117_113, u_117_114, u_117_115, pm_O_some, pm_w_nil, pm_w_i, pm_w_l, pm_w_r, pm_w_n, pm_c_n, pm_c_i, pm_c_l, pm_c_r, pm_c_u, Nat.reduceAdd, Nat.reduceLeDiff, true_and, Option.toList_some, Option.toList_none, List.cons_append, List.nil_append, if_neg e2, m1.f27, a1, x40, ld_l (ix_320 (show 40 * bg + i < 320 by omega)), ld_l (ix_320 (show 40 * sl + i < 320 by omega)), nI_clamp (show 40 * bg + i < 2 ^ 31 by omega), nI_clamp (show 40 * sl + i < 2 ^ 31 by omega), fill_in (show i < 40 by omega), eo, e10, if_false]
        refine mid _ _ ?_
        rw [t1, t2, lI_add, lI_add, hvv, s1, Int.one_mul]
      · subst s2
        simp only [u_117_80, u_117_82, u_117_85, u_117_85n, u_117_86, u_117_89, u_117_91, u_117_93, u_117_94, u_117_96, u_117_97, u_117_98, u_117_99, u_117_118, u_117_118n, u_117_119, u_117_122, u_117_124, u_117_126, u_117_127, u_117_129, u_117_130, u_117_131, pm_O_some, pm_w_nil, pm_w_i, pm_w_l, pm_w_r, pm_w_n, pm_c_n, pm_c_i, pm_c_l, pm_c_r, pm_c_u, Nat.reduceAdd, Nat.reduceLeDiff, true_and, Option.toList_some, Option.toList_none, List.cons_append, List.nil_append, if_neg e2, m1.f27, a1, x40, ld_l (ix_320 (show 40 * bg + i < 320 by omega)), ld_l (ix_320 (show 40 * sl + i < 320 by omega)), nI_clamp (show 40 * bg + i < 2 ^ 31 by omega), nI_clamp (show 40 * sl + i < 2 ^ 31 by omega), fill_in (show i < 40 by omega), eo, if_true]
        refine mid _ _ ?_
        rw [t1, t2, lI_neg, lI_add, lI_add, hvv, s1, Int.neg_one_mul]
  exact loop n 0 0 f w10 w11 h (by omega) (by omega) hl (fun _ _ _ => rfl) (by simp [nv]) n1 Frm.rfl'
theorem z_add2 {σ S : Int} {sf : Int32} {T : Nat} (n1 : NS B h m R) (hbs : (bg = 4 ∧ sl = 5) ∨ (bg = 5 ∧ sl = 4)) (hσ : (σ = 1 ∧ sf = 1) ∨ (σ = -1 ∧ sf = 0)) (hle : (R sl).2.1 ≤ (R bg).2.1) (hT : (T : Int) = ((R bg).2.1 : Int) + σ * ((R sl).2.1 : Int)) (hT2 : T < 1000000000 ^ 40) (hS : S.natAbs = T) (hS2 : sg S = if T = 0 then 0 else (R bg).1)
    (hQ : ∀ h' R', NS B h' m R' → rgq (R' 2) (mkRat S (dp (R bg).2.2 168)) → (∀ j, ¬ j = 2 → ¬ j = 4 → ¬ j = 5 → R' j = R j) → Frm B h h' (m + 18) (m + 22) → Q none h') :
    PW B X 117 56 [some (.ref m), some (.int 2), some (.int 3), some (.int sf), some (.int (nI bg)), none, none, none, none, none, none, none] [] h Q := by
  have hbg : bg < 8 := by omega
  have hsl : sl < 8 := by omega
  have hne : ¬ bg = sl := by omega
  obtain ⟨fl, fu, fs, fw, n2, n3⟩ := n1
  obtain ⟨u, hv, hu⟩ := (n3 bg hbg).rv
  obtain ⟨u2, hv2, hu2⟩ := (n3 sl hsl).rv
  have e9 : (9 : Int32) - nI bg = nI sl := by
    rcases hbs with ⟨rfl, rfl⟩ | ⟨rfl, rfl⟩ <;> decide
  have huu : u2 ≤ u := by
    refine sz_of hv2.2.1 hv2.2.2.1 ?_
    rw [hv2.2.2.2.1]
    refine Nat.lt_of_le_of_lt hle ?_
    rw [← hv.2.2.2.1]
    exact nv_lt (fun i hi => (hv.2.1 i hi).2)
  have a2 := n2.2.2.2.1
  have e1 : fill fl (40 * bg) 40 (fun k => fl (40 * bg + k)) = fl := fq_self
  have e2 : upd fu bg (nI u) = fu := by rw [← hu]; exact upd_self
  have n4 : NA B h m (fill fl (40 * bg) 40 (fun k => fl (40 * bg + k))) (upd fu bg (nI u)) fs fw := by rw [e1, e2]; exact n2
  simp only [u_117_56, u_117_58, u_117_60, u_117_61, u_117_63, u_117_63n, u_117_64, u_117_67, u_117_69, u_117_70, u_117_72, u_117_73, u_117_75, u_117_76, pm_O_some, pm_w_nil, pm_w_i, pm_w_l, pm_w_r, pm_w_n, pm_c_n, pm_c_i, pm_c_l, pm_c_r, pm_c_u, Nat.reduceAdd, Nat.reduceLeDiff, true_and, Option.toList_some, Option.toList_none, List.cons_append, List.nil_append, e9, n2.f28, a2, ld_i (t := 0) (ix_8 hbg) rfl, nI_clamp (show bg < 2 ^ 31 by omega), hu]
  refine z_addl n4 hbg hsl hne hv.1 hv.2.1 hv.2.2.2.2 hv2.all hσ (T := T) ?_ hT2 (fun h1 g u1 c w9 w10 w11 k1 k2 k3 k4 k5 k6 => ?_)
  · rw [hT, hv.2.2.2.1, hv2.ge huu hv.1]
  · simp only [u_117_233, u_117_233n, u_117_234, u_117_236, pm_O_some, pm_w_nil, pm_w_i, pm_w_l, pm_w_r, pm_w_n, pm_c_n, pm_c_i, pm_c_l, pm_c_r, pm_c_u, Nat.reduceAdd, Nat.reduceLeDiff, true_and, Option.toList_some, Option.toList_none, List.cons_append, List.nil_append, k1.io]
    refine z_trim k1 hbg k3 (fun h2 y1 y2 => ?_)
    have hrv : RV g (tl g u1) T := ⟨Nat.le_trans (tl_le _ _) k3, lok_mono k4 (tl_le _ _), tl_tl _ _, by rw [nv_tl]; exact k5, fun j j1 j2 => by
      by_cases c : u1 ≤ j
      · exact k6 j c j2
      · exact tl_zero j1 (by omega)⟩
    have t := NS.dig n3 hbg (s := sg S) hrv
    have e4 : (if tl g u1 = 0 then 0 else fs bg) = sg S := by
      have e3 : fs bg = (R bg).1 := by
        obtain ⟨_, _, _, _, _, _, _, a7, _⟩ := n3 bg hbg
        exact a7
      rw [hS2, e3]
      by_cases c2 : tl g u1 = 0
      · rw [if_pos c2, if_pos (hrv.z.mp c2)]
      · rw [if_neg c2, if_neg (fun z => c2 (hrv.z.mpr z))]
    rw [e4] at y1
    have n5 : NS B h2 m (ups R bg (sg S, T, (R bg).2.2)) := ⟨_, _, _, _, y1, t⟩
    simp only [u_117_239, u_117_239n, u_117_240, u_117_242, pm_O_some, pm_w_nil, pm_w_i, pm_w_l, pm_w_r, pm_w_n, pm_c_n, pm_c_i, pm_c_l, pm_c_r, pm_c_u, Nat.reduceAdd, Nat.reduceLeDiff, true_and, Option.toList_some, Option.toList_none, List.cons_append, List.nil_append, n5.io]
    refine c_reduce n5 hbg (fun h3 R3 n6 r1 r2 r3 r4 F3 => ?_)
    rw [ups_s] at r1 r2
    have q := rat_of (D := S) (U := (R3 bg).2.1) (L := dp (R3 bg).2.2 168) (R := dp (R bg).2.2 168) (dp_pos (Nat.le_refl _)) (dp_pos (Nat.le_refl _)) r3 (by rw [hS]; exact r2)
    simp only [u_117_245, u_117_245n, u_117_246, u_117_248, u_117_249, pm_O_some, pm_w_nil, pm_w_i, pm_w_l, pm_w_r, pm_w_n, pm_c_n, pm_c_i, pm_c_l, pm_c_r, pm_c_u, Nat.reduceAdd, Nat.reduceLeDiff, true_and, Option.toList_some, Option.toList_none, List.cons_append, List.nil_append, n6.io]
    refine c_copy (p := bg) (q := 2) n6 hbg (by omega) (by omega) (fun h4 n7 F4 => ?_)
    simp only [u_117_252, pm_O_some, pm_w_nil, pm_w_i, pm_w_l, pm_w_r, pm_w_n, pm_c_n, pm_c_i, pm_c_l, pm_c_r, pm_c_u, Nat.reduceAdd, Nat.reduceLeDiff, true_and, Option.toList_some, Option.toList_none, List.cons_append, List.nil_append]
    refine hQ h4 _ n7 ?_ (fun j j1 j2 j3 => ?_) (((k2.trans y2).trans F3).trans F4)
    · rw [ups_s]
      exact ⟨by rw [r1, q.2.2], q.1.symm, q.2.1.symm⟩
    · rw [ups_n j1, r4 j (by omega), ups_n (by omega)]
/-- two numbers, brought to one below -/
theorem al_q {q2 q3 : Rat} {R2 R3 : Nat → Rg} (r2 : rgq (R2 4) q2) (al : AL 4 5 R2 R3 168) (r3 : rgq (R2 5) q3) : ∃ D : Nat, 0 < D ∧ dp (R3 4).2.2 168 = D ∧ dp (R3 5).2.2 168 = D ∧ (R3 4).2.1 * q2.den = q2.num.natAbs * D ∧ (R3 5).2.1 * q3.den = q3.num.natAbs * D := by
  obtain ⟨⟨a1, a2⟩, ⟨a3, a4⟩, a5, a6, a7⟩ := al
  refine ⟨dp (R3 4).2.2 168, dp_pos (Nat.le_refl _), rfl, (dp_congr (fun i hi => (a6 i hi))).symm, ?_, ?_⟩
  · rw [r2.2.2, r2.2.1] at a3
    exact a3
  · rw [r3.2.2, r3.2.1, ← dp_congr (fun i hi => (a6 i hi))] at a4
    exact a4
theorem c_add {q2 q3 : Rat} (n1 : NS B h m R) (r2 : rgq (R 2) q2) (r3 : rgq (R 3) q3) (b2 : q2.num.natAbs < 1000000000 ^ 9 ∧ q2.den < 1000000000 ^ 9) (b3 : q3.num.natAbs < 1000000000 ^ 9 ∧ q3.den < 1000000000 ^ 9) (hQ : ∀ h' R', NS B h' m R' → rgq (R' 2) (q2 + q3) → (∀ j, ¬ j = 2 → ¬ j = 4 → ¬ j = 5 → R' j = R j) → Frm B h h' (m + 18) (m + 22) → Q none h') :
    PW B X 117 0 [some (.ref m), some (.int 2), some (.int 3), none, none, none, none, none, none, none, none, none] [] h Q := by
  have bm : ∀ {x y : Nat}, x < 1000000000 ^ 9 → y < 1000000000 ^ 9 → x * y < 1000000000 ^ 18 := fun {x y} hx hy => by
    have := Nat.mul_le_mul (Nat.le_of_lt_succ (Nat.lt_succ_of_lt hx)) (Nat.le_of_lt_succ (Nat.lt_succ_of_lt hy))
    rcases Nat.eq_zero_or_pos y with z | z
    · rw [z, Nat.mul_zero]; exact Nat.pow_pos (by decide)
    · calc x * y < 1000000000 ^ 9 * y := Nat.mul_lt_mul_of_pos_right hx z
        _ ≤ 1000000000 ^ 9 * 1000000000 ^ 9 := Nat.mul_le_mul_left _ (by omega)
        _ = 1000000000 ^ 18 := by decide +kernel
  have l1840 : 1000000000 ^ 18 + 1000000000 ^ 18 ≤ 1000000000 ^ 40 := by decide +kernel
  have l924 : 1000000000 ^ 9 ≤ 1000000000 ^ 24 := by decide +kernel
  simp only [u_117_0, u_117_0n, u_117_1, u_117_2, u_117_3, pm_O_some, pm_w_nil, pm_w_i, pm_w_l, pm_w_r, pm_w_n, pm_c_n, pm_c_i, pm_c_l, pm_c_r, pm_c_u, Nat.reduceAdd, Nat.reduceLeDiff, true_and, Option.toList_some, Option.toList_none, List.cons_append, List.nil_append, n1.io]
  refine c_copy (p := 2) (q := 4) n1 (by omega) (by omega) (by omega) (fun h1 n2 F1 => ?_)
  simp only [u_117_6, u_117_6n, u_117_7, u_117_8, u_117_9, pm_O_some, pm_w_nil, pm_w_i, pm_w_l, pm_w_r, pm_w_n, pm_c_n, pm_c_i, pm_c_l, pm_c_r, pm_c_u, Nat.reduceAdd, Nat.reduceLeDiff, true_and, Option.toList_some, Option.toList_none, List.cons_append, List.nil_append, n2.io]
  refine c_copy (p := 3) (q := 5) n2 (by omega) (by omega) (by omega) (fun h2 n3 F2 => ?_)
  have R4 : ups (ups R 4 (R 2)) 5 (ups R 4 (R 2) 3) 4 = R 2 := rfl
  have R5 : ups (ups R 4 (R 2)) 5 (ups R 4 (R 2) 3) 5 = R 3 := rfl
  have Ro : ∀ j, ¬ j = 4 → ¬ j = 5 → ups (ups R 4 (R 2)) 5 (ups R 4 (R 2) 3) j = R j := fun j j1 j2 => by rw [ups_n j2, ups_n j1]
  generalize ups (ups R 4 (R 2)) 5 (ups R 4 (R 2) 3) = R2 at n3 R4 R5 Ro
  simp only [u_117_12, u_117_12n, u_117_13, u_117_14, u_117_15, pm_O_some, pm_w_nil, pm_w_i, pm_w_l, pm_w_r, pm_w_n, pm_c_n, pm_c_i, pm_c_l, pm_c_r, pm_c_u, Nat.reduceAdd, Nat.reduceLeDiff, true_and, Option.toList_some, Option.toList_none, List.cons_append, List.nil_append, n3.io]
  refine c_align (a := 4) (b := 5) n3 (by omega) (by omega) (by omega) ?_ ?_ ?_ ?_ (fun h3 R3 n4 al F3 => ?_)
  · rw [R4, R5, r2.2.1, r3.2.2]
    have := bm b2.1 b3.2
    omega
  · rw [R4, R5, r3.2.1, r2.2.2]
    have := bm b3.1 b2.2
    omega
  · rw [R4, r2.2.2]
    omega
  · rw [R5, r3.2.2]
    omega
  have al' := al
  obtain ⟨D, D0, d4, d5, N4, N5⟩ := al_q (by rw [R4]; exact r2) al (by rw [R5]; exact r3)
  obtain ⟨A4, x1, x2, x3⟩ := sgn_of D0 N4 q2.den_pos
  obtain ⟨A5, y1, y2, y3⟩ := sgn_of D0 N5 q3.den_pos
  have bd := al.bnd
  have bd' := al.swap.bnd
  rw [R4, R5, r2.2.1, r3.2.2] at bd
  rw [R4, R5, r3.2.1, r2.2.2] at bd'
  have u4 := bm b2.1 b3.2
  have u5 := bm b3.1 b2.2
  have s4 : (R3 4).1 = sg A4 := by rw [al.1.1, R4, r2.1, x3]
  have s5 : (R3 5).1 = sg A5 := by rw [al.1.2, R5, r3.1, y3]
  have hsum : mkRat (A4 + A5) D = q2 + q3 := by
    have e2 : q2 = mkRat A4 D := by
      have := (Rat.mkRat_eq_iff (n₁ := A4) (d₁ := D) (n₂ := q2.num) (d₂ := q2.den) (by omega) q2.den_nz).mpr x2
      rw [this, Rat.mkRat_self]
    have e3 : q3 = mkRat A5 D := by
      have := (Rat.mkRat_eq_iff (n₁ := A5) (d₁ := D) (n₂ := q3.num) (d₂ := q3.den) (by omega) q3.den_nz).mpr y2
      rw [this, Rat.mkRat_self]
    rw [e2, e3, Rat.mkRat_add_mkRat _ _ (by omega) (by omega), Rat.mkRat_eq_iff (by omega) (Nat.ne_of_gt (Nat.mul_pos D0 D0)), Int.natCast_mul, ← Int.add_mul, Int.mul_assoc]
  have fin : ∀ h' R', NS B h' m R' → rgq (R' 2) (mkRat (A4 + A5) D) → (∀ j, ¬ j = 2 → ¬ j = 4 → ¬ j = 5 → R' j = R3 j) → Frm B h3 h' (m + 18) (m + 22) → Q none h' := by
    intro h' R' k1 k2 k3 k4
    rw [hsum] at k2
    refine hQ h' R' k1 k2 (fun j j1 j2 j3 => ?_) (((F1.trans F2).trans F3).trans k4)
    rw [k3 j j1 j2 j3, al.2.2.2.2 j j2 j3, Ro j j2 j3]
  have big : ∀ sf σ, ((σ = 1 ∧ sf = 1 ∧ ¬ sg A4 * sg A5 < 0) ∨ (σ = -1 ∧ sf = 0 ∧ sg A4 * sg A5 < 0)) → PW B X 117 40 [some (.ref m), some (.int 2), some (.int 3), some (.int sf), none, none, none, none, none, none, none, none] [] h3 Q := by
    intro sf σ hσ
    have hσ' : (σ = 1 ∧ sf = 1) ∨ (σ = -1 ∧ sf = 0) := by
      rcases hσ with ⟨p1, p2, _⟩ | ⟨p1, p2, _⟩
      · exact Or.inl ⟨p1, p2⟩
      · exact Or.inr ⟨p1, p2⟩
    simp only [u_117_40, u_117_40n, u_117_41, u_117_42, u_117_43, pm_O_some, pm_w_nil, pm_w_i, pm_w_l, pm_w_r, pm_w_n, pm_c_n, pm_c_i, pm_c_l, pm_c_r, pm_c_u, Nat.reduceAdd, Nat.reduceLeDiff, true_and, Option.toList_some, Option.toList_none, List.cons_append, List.nil_append, n4.io]
    refine (c_csizes (a := 4) (b := 5) n4 (by omega) (by omega)).mpr ?_
    by_cases cl : (R3 4).2.1 < (R3 5).2.1
    · have e1 : ci (R3 4).2.1 (R3 5).2.1 < 0 := by unfold ci; rw [if_pos cl]; decide
      simp only [u_117_46, u_117_49, u_117_50, u_117_53, u_117_54, pm_O_some, pm_w_nil, pm_w_i, pm_w_l, pm_w_r, pm_w_n, pm_c_n, pm_c_i, pm_c_l, pm_c_r, pm_c_u, Nat.reduceAdd, Nat.reduceLeDiff, true_and, Option.toList_some, Option.toList_none, List.cons_append, List.nil_append, if_pos e1]
      obtain ⟨g1, g2, g3⟩ := sum_sg (a := A5) (b := A4) (by omega)
      rw [Int32.mul_comm] at g1 g2
      refine z_add2 (bg := 5) (sl := 4) (σ := σ) (S := A5 + A4) (T := (A5 + A4).natAbs) n4 (Or.inr ⟨rfl, rfl⟩) hσ' (by omega) ?_ ?_ rfl (by rw [g3, s5]) (fun h' R' k1 k2 k3 k4 => fin h' R' k1 (by rw [d5, Int.add_comm] at k2; exact k2) k3 k4)
      · rcases hσ with ⟨p1, p2, p3⟩ | ⟨p1, p2, p3⟩
        · have := g2 p3
          rw [p1, Int.one_mul]
          omega
        · have := g1 p3
          rw [p1, Int.neg_one_mul]
          omega
      · have : (A5 + A4).natAbs ≤ A5.natAbs + A4.natAbs := Int.natAbs_add_le _ _
        omega
    · have e1 : ¬ ci (R3 4).2.1 (R3 5).2.1 < 0 := by
        unfold ci
        rw [if_neg cl]
        split <;> decide
      simp only [u_117_46, u_117_49, u_117_50, u_117_53, u_117_54, pm_O_some, pm_w_nil, pm_w_i, pm_w_l, pm_w_r, pm_w_n, pm_c_n, pm_c_i, pm_c_l, pm_c_r, pm_c_u, Nat.reduceAdd, Nat.reduceLeDiff, true_and, Option.toList_some, Option.toList_none, List.cons_append, List.nil_append, if_neg e1]
      obtain ⟨g1, g2, g3⟩ := sum_sg (a := A4) (b := A5) (by omega)
      refine z_add2 (bg := 4) (sl := 5) (σ := σ) (S := A4 + A5) (T := (A4 + A5).natAbs) n4 (Or.inl ⟨rfl, rfl⟩) hσ' (by omega) ?_ ?_ rfl (by rw [g3, s4]) (fun h' R' k1 k2 k3 k4 => fin h' R' k1 (by rw [d4] at k2; exact k2) k3 k4)
      · rcases hσ with ⟨p1, p2, p3⟩ | ⟨p1, p2, p3⟩
        · have := g2 p3
          rw [p1, Int.one_mul]
          omega
        · have := g1 p3
          rw [p1, Int.neg_one_mul]
          omega
      · have : (A4 + A5).natAbs ≤ A4.natAbs + A5.natAbs := Int.natAbs_add_le _ _
        omega
  obtain ⟨fl, fu, fs, fw, v1, v2⟩ := id n4
  have a3 := v1.2.2.2.2.1
  have f4 : fs 4 = sg A4 := by
    obtain ⟨_, _, _, _, _, _, _, a7, _⟩ := v2 4 (by omega)
    rw [a7, s4]
  have f5 : fs 5 = sg A5 := by
    obtain ⟨_, _, _, _, _, _, _, a7, _⟩ := v2 5 (by omega)
    rw [a7, s5]
  by_cases c1 : sg A4 * sg A5 < 0
  · simp only [u_117_18, u_117_18n, u_117_19, u_117_22, u_117_23, u_117_24, u_117_24n, u_117_25, u_117_28, u_117_29, u_117_30, u_117_31, u_117_34, u_117_35, u_117_38, u_117_39, pm_O_some, pm_w_nil, pm_w_i, pm_w_l, pm_w_r, pm_w_n, pm_c_n, pm_c_i, pm_c_l, pm_c_r, pm_c_u, Nat.reduceAdd, Nat.reduceLeDiff, true_and, Option.toList_some, Option.toList_none, List.cons_append, List.nil_append, v1.f29, a3, ld8 (k := 4) (x := 4) (by omega) rfl, ld8 (k := 5) (x := 5) (by omega) rfl, f4, f5, if_pos c1]
    exact big 0 (-1) (Or.inr ⟨rfl, rfl, c1⟩)
  · simp only [u_117_18, u_117_18n, u_117_19, u_117_22, u_117_23, u_117_24, u_117_24n, u_117_25, u_117_28, u_117_29, u_117_30, u_117_31, u_117_34, u_117_35, u_117_38, u_117_39, pm_O_some, pm_w_nil, pm_w_i, pm_w_l, pm_w_r, pm_w_n, pm_c_n, pm_c_i, pm_c_l, pm_c_r, pm_c_u, Nat.reduceAdd, Nat.reduceLeDiff, true_and, Option.toList_some, Option.toList_none, List.cons_append, List.nil_append, v1.f29, a3, ld8 (k := 4) (x := 4) (by omega) rfl, ld8 (k := 5) (x := 5) (by omega) rfl, f4, f5, if_neg c1]
    exact big 1 1 (Or.inl ⟨rfl, rfl, c1⟩)
/-- registers 4 and 5 filled and brought to one below -/
theorem c_al45 {qa qb : Rat} {K1 K2 K3 : Option Value → pm_H → Prop} (n1 : NS B h m R) (ra : rgq (R a) qa) (rb : rgq (R b) qb) (ha : a < 8 ∧ ¬ a = 4 ∧ ¬ a = 5) (hb : b < 8 ∧ ¬ b = 4 ∧ ¬ b = 5) (b2 : qa.num.natAbs < 1000000000 ^ 9 ∧ qa.den < 1000000000 ^ 9) (b3 : qb.num.natAbs < 1000000000 ^ 9 ∧ qb.den < 1000000000 ^ 9)
    (c1 : ∀ h1, pm_io B h1 m 10 = true → PW B X 118 0 [some (.ref m), some (.int (nI b)), some (.int 5), none] [] h1 K2 → K1 none h1)
    (c2 : ∀ h1, pm_io B h1 m 10 = true → PW B X 119 0 [some (.ref m), some (.int 4), some (.int 5), none] [] h1 K3 → K2 none h1)
    (hQ : ∀ h' R', NS B h' m R' → ci (R' 4).2.1 (R' 5).2.1 = ci (qa.num.natAbs * qb.den) (qb.num.natAbs * qa.den) → (∀ j, ¬ j = 4 → ¬ j = 5 → R' j = R j) → Frm B h h' (m + 18) (m + 22) → K3 none h') :
    PW B X 118 0 [some (.ref m), some (.int (nI a)), some (.int 4), none] [] h K1 := by
  have bm : ∀ {x y : Nat}, x < 1000000000 ^ 9 → y < 1000000000 ^ 9 → x * y < 1000000000 ^ 18 := fun {x y} hx hy => by
    rcases Nat.eq_zero_or_pos y with z | z
    · rw [z, Nat.mul_zero]; exact Nat.pow_pos (by decide)
    · calc x * y < 1000000000 ^ 9 * y := Nat.mul_lt_mul_of_pos_right hx z
        _ ≤ 1000000000 ^ 9 * 1000000000 ^ 9 := Nat.mul_le_mul_left _ (by omega)
        _ = 1000000000 ^ 18 := by decide +kernel
  have l1840 : 1000000000 ^ 18 + 1000000000 ^ 18 ≤ 1000000000 ^ 40 := by decide +kernel
  have l924 : 1000000000 ^ 9 ≤ 1000000000 ^ 24 := by decide +kernel
  refine c_copy (p := a) (q := 4) n1 ha.1 (by omega) ha.2.1 (fun h1 n2 F1 => c1 h1 n2.io ?_)
  refine c_copy (p := b) (q := 5) n2 hb.1 (by omega) hb.2.2 (fun h2 n3 F2 => c2 h2 n3.io ?_)
  have R4 : ups (ups R 4 (R a)) 5 (ups R 4 (R a) b) 4 = R a := rfl
  have R5 : ups (ups R 4 (R a)) 5 (ups R 4 (R a) b) 5 = R b := by rw [ups_s, ups_n hb.2.1]
  have Ro : ∀ j, ¬ j = 4 → ¬ j = 5 → ups (ups R 4 (R a)) 5 (ups R 4 (R a) b) j = R j := fun j j1 j2 => by rw [ups_n j2, ups_n j1]
  generalize ups (ups R 4 (R a)) 5 (ups R 4 (R a) b) = R2 at n3 R4 R5 Ro
  refine c_align (a := 4) (b := 5) n3 (by omega) (by omega) (by omega) ?_ ?_ ?_ ?_ (fun h3 R3 n4 al F3 => ?_)
  · rw [R4, R5, ra.2.1, rb.2.2]
    have := bm b2.1 b3.2
    omega
  · rw [R4, R5, rb.2.1, ra.2.2]
    have := bm b3.1 b2.2
    omega
  · rw [R4, ra.2.2]
    omega
  · rw [R5, rb.2.2]
    omega
  obtain ⟨D, D0, d4, d5, N4, N5⟩ := al_q (by rw [R4]; exact ra) al (by rw [R5]; exact rb)
  exact hQ h3 R3 n4 (ci_scale N4 N5 qa.den_pos qb.den_pos D0) (fun j j1 j2 => by rw [al.2.2.2.2 j j1 j2, Ro j j1 j2]) ((F1.trans F2).trans F3)
theorem c_compare {qa qb : Rat} (n1 : NS B h m R) (ra : rgq (R a) qa) (rb : rgq (R b) qb) (ha : a < 8 ∧ ¬ a = 4 ∧ ¬ a = 5) (hb : b < 8 ∧ ¬ b = 4 ∧ ¬ b = 5) (b2 : qa.num.natAbs < 1000000000 ^ 9 ∧ qa.den < 1000000000 ^ 9) (b3 : qb.num.natAbs < 1000000000 ^ 9 ∧ qb.den < 1000000000 ^ 9)
    (hQ : ∀ h' R', NS B h' m R' → (∀ j, ¬ j = 4 → ¬ j = 5 → R' j = R j) → Frm B h h' (m + 18) (m + 22) → Q (some (.int (cq qa qb))) h') : PW B X 121 0 [some (.ref m), some (.int (nI a)), some (.int (nI b))] [] h Q := by
  have ce := cq_eq (q := qa) (q2 := qb)
  obtain ⟨fl, fu, fs, fw, v1, v2⟩ := id n1
  have a3 := v1.2.2.2.2.1
  have f4 : fs a = sg qa.num := by
    obtain ⟨_, _, _, _, _, _, _, a7, _⟩ := v2 a ha.1
    rw [a7, ra.1]
  have f5 : fs b = sg qb.num := by
    obtain ⟨_, _, _, _, _, _, _, a7, _⟩ := v2 b hb.1
    rw [a7, rb.1]
  by_cases c : sg qa.num = sg qb.num
  · rw [if_pos c] at ce
    simp only [u_121_0, u_121_0n, u_121_1, u_121_4, u_121_5, u_121_6, u_121_6n, u_121_7, u_121_10, u_121_11, u_121_12, u_121_36, u_121_36n, u_121_37, u_121_38, u_121_39, u_121_42, u_121_42n, u_121_43, u_121_44, u_121_45, u_121_48, u_121_48n, u_121_49, u_121_50, u_121_51, pm_O_some, pm_w_nil, pm_w_i, pm_w_l, pm_w_r, pm_w_n, pm_c_n, pm_c_i, pm_c_l, pm_c_r, pm_c_u, Nat.reduceAdd, Nat.reduceLeDiff, true_and, Option.toList_some, Option.toList_none, List.cons_append, List.nil_append, v1.f29, a3, ld8 ha.1 rfl, ld8 hb.1 rfl, f4, f5, if_pos c, n1.io]
    refine c_al45 n1 ra rb ha hb b2 b3 (fun h1 i1 w => ⟨by decide, i1, w⟩) (fun h1 i1 w => ⟨by decide, i1, w⟩) (fun h' R' k1 k2 k3 k4 => ?_)
    obtain ⟨fl', fu', fs', fw', v1', v2'⟩ := id k1
    have a3' := v1'.2.2.2.2.1
    have f4' : fs' a = sg qa.num := by
      obtain ⟨_, _, _, _, _, _, _, a7, _⟩ := v2' a ha.1
      rw [a7, k3 a ha.2.1 ha.2.2, ra.1]
    simp only [u_121_54, u_121_54n, u_121_55, u_121_58, u_121_59, u_121_60, u_121_60n, u_121_61, u_121_62, u_121_63, pm_O_some, pm_w_nil, pm_w_i, pm_w_l, pm_w_r, pm_w_n, pm_c_n, pm_c_i, pm_c_l, pm_c_r, pm_c_u, Nat.reduceAdd, Nat.reduceLeDiff, true_and, Option.toList_some, Option.toList_none, List.cons_append, List.nil_append, v1'.f29, a3', ld8 ha.1 rfl, f4', k1.io]
    refine (c_csizes (a := 4) (b := 5) k1 (by omega) (by omega)).mpr ?_
    simp only [u_121_66, u_121_67, pm_O_some, pm_w_nil, pm_w_i, pm_w_l, pm_w_r, pm_w_n, pm_c_n, pm_c_i, pm_c_l, pm_c_r, pm_c_u, Nat.reduceAdd, Nat.reduceLeDiff, true_and, Option.toList_some, Option.toList_none, List.cons_append, List.nil_append]
    rw [k2, ce]
    exact hQ h' R' k1 k3 k4
  · rw [if_neg c] at ce
    by_cases cl : sg qb.num ≤ sg qa.num
    · rw [if_neg (i_nlt.mpr cl)] at ce
      simp only [u_121_0, u_121_0n, u_121_1, u_121_4, u_121_5, u_121_6, u_121_6n, u_121_7, u_121_10, u_121_11, u_121_12, u_121_15, u_121_15n, u_121_16, u_121_19, u_121_20, u_121_21, u_121_21n, u_121_22, u_121_25, u_121_26, u_121_27, u_121_30, u_121_31, u_121_34, u_121_35, pm_O_some, pm_w_nil, pm_w_i, pm_w_l, pm_w_r, pm_w_n, pm_c_n, pm_c_i, pm_c_l, pm_c_r, pm_c_u, Nat.reduceAdd, Nat.reduceLeDiff, true_and, Option.toList_some, Option.toList_none, List.cons_append, List.nil_append, v1.f29, a3, ld8 ha.1 rfl, ld8 hb.1 rfl, f4, f5, if_neg c, if_pos cl]
      rw [ce]
      exact hQ h R n1 (fun _ _ _ => rfl) Frm.rfl'
    · rw [if_pos (i_nle.mp cl)] at ce
      simp only [u_121_0, u_121_0n, u_121_1, u_121_4, u_121_5, u_121_6, u_121_6n, u_121_7, u_121_10, u_121_11, u_121_12, u_121_15, u_121_15n, u_121_16, u_121_19, u_121_20, u_121_21, u_121_21n, u_121_22, u_121_25, u_121_26, u_121_27, u_121_30, u_121_31, u_121_34, u_121_35, pm_O_some, pm_w_nil, pm_w_i, pm_w_l, pm_w_r, pm_w_n, pm_c_n, pm_c_i, pm_c_l, pm_c_r, pm_c_u, Nat.reduceAdd, Nat.reduceLeDiff, true_and, Option.toList_some, Option.toList_none, List.cons_append, List.nil_append, v1.f29, a3, ld8 ha.1 rfl, ld8 hb.1 rfl, f4, f5, if_neg c, if_neg cl]
      rw [ce]
      exact hQ h R n1 (fun _ _ _ => rfl) Frm.rfl'
theorem c_worst {lq gq : Rat} (n1 : NS B h m R) (ra : rgq (R 0) lq) (rb : rgq (R 1) gq) (b2 : lq.num.natAbs < 1000000000 ^ 9 ∧ lq.den < 1000000000 ^ 9) (b3 : gq.num.natAbs < 1000000000 ^ 9 ∧ gq.den < 1000000000 ^ 9)
    (hQ : ∀ h' R' w, NS B h' m R' → (w = 0 ∨ w = 1) → rgq (R' w) (wq lq gq 2) → (∀ j, ¬ j = 4 → ¬ j = 5 → R' j = R j) → Frm B h h' (m + 18) (m + 22) → Q (some (.int (nI w))) h') : PW B X 122 0 [some (.ref m)] [] h Q := by
  simp only [u_122_0, u_122_0n, u_122_1, u_122_2, u_122_3, u_122_6, u_122_6n, u_122_7, u_122_8, u_122_9, u_122_12, u_122_12n, u_122_13, u_122_14, u_122_15, pm_O_some, pm_w_nil, pm_w_i, pm_w_l, pm_w_r, pm_w_n, pm_c_n, pm_c_i, pm_c_l, pm_c_r, pm_c_u, Nat.reduceAdd, Nat.reduceLeDiff, true_and, Option.toList_some, Option.toList_none, List.cons_append, List.nil_append, n1.io]
  refine c_al45 (a := 0) (b := 1) n1 ra rb (by omega) (by omega) b2 b3 (fun h1 i1 w => ⟨by decide, i1, w⟩) (fun h1 i1 w => ⟨by decide, i1, w⟩) (fun h' R' k1 k2 k3 k4 => ?_)
  simp only [u_122_18, u_122_18n, u_122_19, u_122_20, u_122_21, pm_O_some, pm_w_nil, pm_w_i, pm_w_l, pm_w_r, pm_w_n, pm_c_n, pm_c_i, pm_c_l, pm_c_r, pm_c_u, Nat.reduceAdd, Nat.reduceLeDiff, true_and, Option.toList_some, Option.toList_none, List.cons_append, List.nil_append, k1.io]
  refine (c_csizes (a := 4) (b := 5) k1 (by omega) (by omega)).mpr ?_
  rw [k2]
  by_cases c : gq.num.natAbs * lq.den < lq.num.natAbs * gq.den
  · have e1 : ¬ ci (lq.num.natAbs * gq.den) (gq.num.natAbs * lq.den) ≤ 0 := by
      unfold ci
      rw [if_neg (by omega), if_neg (by omega)]
      decide
    simp only [u_122_24, u_122_27, u_122_28, u_122_31, u_122_32, pm_O_some, pm_w_nil, pm_w_i, pm_w_l, pm_w_r, pm_w_n, pm_c_n, pm_c_i, pm_c_l, pm_c_r, pm_c_u, Nat.reduceAdd, Nat.reduceLeDiff, true_and, Option.toList_some, Option.toList_none, List.cons_append, List.nil_append, if_neg e1]
    refine hQ h' R' 0 k1 (Or.inl rfl) ?_ k3 k4
    rw [k3 0 (by omega) (by omega)]
    unfold wq
    rw [if_neg (by omega), if_neg (by omega), if_pos c]
    exact ra
  · have e1 : ci (lq.num.natAbs * gq.den) (gq.num.natAbs * lq.den) ≤ 0 := by
      unfold ci
      by_cases c2 : lq.num.natAbs * gq.den < gq.num.natAbs * lq.den
      · rw [if_pos c2]; decide
      · rw [if_neg c2, if_pos (by omega)]; decide
    simp only [u_122_24, u_122_27, u_122_28, u_122_31, u_122_32, pm_O_some, pm_w_nil, pm_w_i, pm_w_l, pm_w_r, pm_w_n, pm_c_n, pm_c_i, pm_c_l, pm_c_r, pm_c_u, Nat.reduceAdd, Nat.reduceLeDiff, true_and, Option.toList_some, Option.toList_none, List.cons_append, List.nil_append, if_pos e1]
    refine hQ h' R' 1 k1 (Or.inr rfl) ?_ k3 k4
    rw [k3 1 (by omega) (by omega)]
    unfold wq
    rw [if_neg (by omega), if_neg (by omega), if_neg c]
    exact rb
end ADS

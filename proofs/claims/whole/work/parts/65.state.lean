/-! THE STATE: what the class's cells hold (CA), its working room (CW); Extremes.chosen; a new bearing. Cells: the object B, its parts B + 1 .. B + 70, the reference B + 71 .. B + 94, bearing i at B + 95 + 8 i. -/
def wq (lq gq : Rat) (w : Nat) : Rat := if w = 0 then lq else if w = 1 then gq else if gq.num.natAbs * lq.den < lq.num.natAbs * gq.den then lq else gq
-- a bearing: x, y, held along x, along y, values above and below, the joint's length, gap, warmth
abbrev Bg : Type := Int32 × Int32 × Int32 × Int32 × (Nat → Nat → Int) × (Nat → Nat → Nat) × Int32 × Int32 × Int32
def BeG (B : Nat) (h : pm_H) (b : Nat) (g : Bg) : Prop := BeV B h b g.1 g.2.1 g.2.2.1 g.2.2.2.1 g.2.2.2.2.1 g.2.2.2.2.2.1 g.2.2.2.2.2.2.1 g.2.2.2.2.2.2.2.1 g.2.2.2.2.2.2.2.2
def bgok (g : Bg) : Prop := (-100000 ≤ g.1.toInt ∧ g.1.toInt ≤ 100000) ∧ (-100000 ≤ g.2.1.toInt ∧ g.2.1.toInt ≤ 100000) ∧ (g.2.2.1 = 0 ∨ g.2.2.1 = 1) ∧ (g.2.2.2.1 = 0 ∨ g.2.2.2.1 = 1) ∧ (0 ≤ g.2.2.2.2.2.2.1.toInt ∧ g.2.2.2.2.2.2.1.toInt ≤ 1000000) ∧ (-10000 ≤ g.2.2.2.2.2.2.2.1.toInt ∧ g.2.2.2.2.2.2.2.1.toInt ≤ 10000) ∧ (-600 ≤ g.2.2.2.2.2.2.2.2.toInt ∧ g.2.2.2.2.2.2.2.2.toInt ≤ 900)
def BsV (B : Nat) (h : pm_H) (n : Nat) (bs : Nat → Bg) : Prop := n ≤ 10 ∧ (∃ fb, pm_at B h (B + 1) = some (.inl (4, 10, .inr (.inr (.inr (.inr fb))))) ∧ ∀ i, i < n → fb i = some (B + 95 + 8 * i)) ∧ ∀ i, i < n → BeG B h (B + 95 + 8 * i) (bs i) ∧ bgok (bs i)
def RdV (B : Nat) (h : pm_H) (ln : Nat) (tx : Nat → Nat) : Prop := ln ≤ 200 ∧ ∃ ra fT, pm_at B h (B + 3) = some (.inr (2, [.ref (B + 4), .int (nI ln), .int ra])) ∧ pm_at B h (B + 4) = some (.inl (2, 200, .inl fT)) ∧ ∀ i, i < ln → fT i = nI (tx i) ∧ 32 ≤ tx i ∧ tx i ≤ 126
def RsX (B : Nat) (h : pm_H) (r : Nat) : Prop := ∃ fc fu fl fk fs x5 x6, RsR B h r fc fu fl fk fs x5 x6
def LsV (B : Nat) (h : pm_H) (nl : Nat) (lm ll : Nat → Nat) : Prop := nl ≤ 12 ∧ ∃ f g, pm_at B h (B + 69) = some (.inl (0, 12, .inl f)) ∧ pm_at B h (B + 70) = some (.inl (0, 12, .inl g)) ∧ ∀ i, i < nl → f i = nI (lm i) ∧ lm i ≤ 100000 ∧ g i = nI (ll i) ∧ ll i ≤ 10000000
/-- the sum of all steps between days -/
def wy (dy : Nat → Int) : Nat → Nat
  | 0 => 0
  | 1 => 0
  | k + 2 => wy dy (k + 1) + (dy (k + 1) - dy k).natAbs
def su (sz : Nat → Nat) : Nat → Nat
  | 0 => 0
  | k + 1 => su sz k + sz k
def JkV (n : Nat) (jk : Option (Nat × Nat)) (jh jm ra : Int32) : Prop := (jk = none ∧ ra = -1) ∨ ∃ a b, jk = some (a, b) ∧ jh = nI a ∧ jm = nI b ∧ 1 ≤ a ∧ a ≤ 10000 ∧ 1 ≤ b ∧ b ≤ 10000 ∧ ra = nI ((a + b - 1) / b * n) ∧ 0 < n
def DyV (nd : Nat) (dy : Nat → Int) (lw : Int32) : Prop := nd ≤ 400 ∧ (∀ i, i < nd → -600 ≤ dy i ∧ dy i ≤ 900) ∧ (0 < nd → lw.toInt = dy (nd - 1))
def CA (B : Nat) (h : pm_H) (n : Nat) (bs : Nat → Bg) (ln : Nat) (tx : Nat → Nat) (nr : Nat) (sz : Nat → Nat) (tm : Nat → Nat → Tm) (nd : Nat) (dy : Nat → Int) (nl : Nat) (lm ll : Nat → Nat) (jk : Option (Nat × Nat)) : Prop :=
  ∃ (rs rs2 : Nat) (lw jh jm ra : Int32), pm_at B h B = some (.inr (0, [.ref (B + 1), .int (nI n), .ref (B + 2), .ref (B + 3), .ref rs, .ref rs2, .ref (B + 17), .ref (B + 22), .ref (B + 48), .ref (B + 53), .int (nI nd), .int lw, .long (lN (wy dy nd)), .ref (B + 69), .ref (B + 70), .int (nI nl), .int jh, .int jm, .int ra])) ∧
    (rs = B + 5 ∧ rs2 = B + 11 ∨ rs = B + 11 ∧ rs2 = B + 5) ∧ BsV B h n bs ∧ RdV B h ln tx ∧ RsV B h rs nr (su sz nr) sz tm ∧ RsX B h rs2 ∧ LsV B h nl lm ll ∧ DyV nd dy lw ∧ JkV n jk jh jm ra
def CW (B : Nat) (h : pm_H) : Prop := (∃ t g rb rt, pm_at B h (B + 2) = some (.inr (1, [.long t, .long g, .int rb, .int rt]))) ∧ (∃ lq lc gq gc, ExR B h (B + 17) lq lc gq gc) ∧ (∃ s U L, FracV B h (B + 48) s U L) ∧ (∃ fb, pm_at B h (B + 53) = some (.inl (5, 3, .inr (.inr (.inr (.inr fb))))) ∧ fb 0 = some (B + 54) ∧ fb 1 = some (B + 59) ∧ fb 2 = some (B + 64)) ∧ (∃ s U L, FracV B h (B + 54) s U L) ∧ (∃ s U L, FracV B h (B + 59) s U L) ∧ (∃ s U L, FracV B h (B + 64) s U L)
section ST
variable {B : Nat} {X : pm_X} {h h' : pm_H} {Q : Option Value → pm_H → Prop} {e lo hi n ln nr nd nl b w : Nat} {bs : Nat → Bg} {tx sz lm ll : Nat → Nat} {tm : Nat → Nat → Tm} {dy : Nat → Int} {jk : Option (Nat × Nat)} {lq gq : Rat} {lc gc : Int32} {g : Bg}
theorem BeG.frm (n1 : BeG B h b g) (f1 : Frm B h h' lo hi) (d : b + 8 ≤ lo ∨ hi ≤ b) : BeG B h' b g := BeV.frm n1 f1 d
theorem BsV.frm (n1 : BsV B h n bs) (f1 : Frm B h h' lo hi) (d : hi ≤ B + 1 ∨ (B + 2 ≤ lo ∧ hi ≤ B + 95)) : BsV B h' n bs := by
  obtain ⟨h1, ⟨fb, h2, h3⟩, h4⟩ := n1
  exact ⟨h1, ⟨fb, by rw [f1.2.2 _ (by omega)]; exact h2, h3⟩, fun i hi => ⟨(h4 i hi).1.frm f1 (by omega), (h4 i hi).2⟩⟩
theorem RdV.frm (n1 : RdV B h ln tx) (f1 : Frm B h h' lo hi) (d : B + 5 ≤ lo ∨ hi ≤ B + 3) : RdV B h' ln tx := by
  obtain ⟨h1, ra, fT, h2, h3, h4⟩ := n1
  exact ⟨h1, ra, fT, by rw [f1.2.2 _ (by omega)]; exact h2, by rw [f1.2.2 _ (by omega)]; exact h3, h4⟩
theorem RsX.frm (n1 : RsX B h b) (f1 : Frm B h h' lo hi) (d : b + 6 ≤ lo ∨ hi ≤ b) : RsX B h' b := by
  obtain ⟨fc, fu, fl, fk, fs, x5, x6, h1⟩ := n1
  exact ⟨fc, fu, fl, fk, fs, x5, x6, h1.frm f1 d⟩
theorem LsV.frm (n1 : LsV B h nl lm ll) (f1 : Frm B h h' lo hi) (d : B + 71 ≤ lo ∨ hi ≤ B + 69) : LsV B h' nl lm ll := by
  obtain ⟨h1, f, g, h2, h3, h4⟩ := n1
  exact ⟨h1, f, g, by rw [f1.2.2 _ (by omega)]; exact h2, by rw [f1.2.2 _ (by omega)]; exact h3, h4⟩
theorem CA.frm (n1 : CA B h n bs ln tx nr sz tm nd dy nl lm ll jk) (f1 : Frm B h h' lo hi) (d : (B + 17 ≤ lo ∧ hi ≤ B + 69) ∨ (B + 2 ≤ lo ∧ hi ≤ B + 3) ∨ (B + 71 ≤ lo ∧ hi ≤ B + 95)) : CA B h' n bs ln tx nr sz tm nd dy nl lm ll jk := by
  obtain ⟨rs, rs2, lw, jh, jm, ra, h1, h2, h3, h4, h5, h6, h7, h8⟩ := n1
  have a1 : (B + 5 ≤ rs ∧ rs ≤ B + 11) ∧ (B + 5 ≤ rs2 ∧ rs2 ≤ B + 11) := by rcases h2 with ⟨z1, z2⟩ | ⟨z1, z2⟩ <;> omega
  exact ⟨rs, rs2, lw, jh, jm, ra, by rw [f1.2.2 _ (by omega)]; exact h1, h2, h3.frm f1 (by omega), h4.frm f1 (by omega), h5.frm f1 (by omega), h6.frm f1 (by omega), h7.frm f1 (by omega), h8⟩
theorem CW.frm (n1 : CW B h) (f1 : Frm B h h' lo hi) (d : B + 71 ≤ lo ∨ (B + 3 ≤ lo ∧ hi ≤ B + 17) ∨ hi ≤ B + 2 ∨ (B + 69 ≤ lo)) : CW B h' := by
  obtain ⟨⟨t, g, rb, rt, h1⟩, ⟨lq, lc, gq, gc, h2⟩, ⟨s, U, L, h3⟩, ⟨fb, h4, h5⟩, ⟨s1, U1, L1, h6⟩, ⟨s2, U2, L2, h7⟩, ⟨s3, U3, L3, h8⟩⟩ := n1
  exact ⟨⟨t, g, rb, rt, by rw [f1.2.2 _ (by omega)]; exact h1⟩, ⟨lq, lc, gq, gc, h2.frm f1 (by omega)⟩, ⟨s, U, L, h3.frm f1 (by omega)⟩, ⟨fb, by rw [f1.2.2 _ (by omega)]; exact h4, h5⟩, ⟨s1, U1, L1, h6.frm f1 (by omega)⟩, ⟨s2, U2, L2, h7.frm f1 (by omega)⟩, ⟨s3, U3, L3, h8.frm f1 (by omega)⟩⟩
theorem c_chosen (n1 : ExR B h e lq lc gq gc) (hw : w ≤ 2) (hQ : ∀ h' p, (p = e + 21 ∨ p = e + 26) → FracQ B h' p (wq lq gq w) → ExR B h' e lq lc gq gc → Frm B h h' e (e + 31) → Q (some (.ref p)) h') : PW B X 60 0 [some (.ref (e + 5)), some (.int (nI w))] [] h Q := by
  have n0 := n1
  obtain ⟨y1, ⟨P, M, R, F, j, y2⟩, ⟨s0, U0, L0, y3⟩, y4, y5, y6, y7, y8⟩ := n1
  obtain rfl | rfl | rfl : w = 0 ∨ w = 1 ∨ w = 2 := by omega
  · have e1 : ¬ nI 0 = 2 := by decide
    have e2 : nI 0 = 0 := by decide
    simp only [u_60_0, u_60_1, u_60_2, u_60_5, u_60_5n, u_60_6, u_60_9, u_60_9n, u_60_10, u_60_13, u_60_13n, u_60_14, u_60_17, u_60_20, u_60_23, u_60_23n, u_60_24, u_60_27, u_60_30, u_60_30n, u_60_31, u_60_34, u_60_34n, u_60_35, u_60_36, u_60_39, u_60_39n, u_60_40, u_60_43, u_60_46, u_60_46n, u_60_47, u_60_50, u_60_50n, pm_O_some, pm_w_nil, pm_w_i, pm_w_l, pm_w_r, pm_w_n, pm_c_n, pm_c_i, pm_c_l, pm_c_r, pm_c_u, Nat.reduceAdd, Nat.reduceLeDiff, true_and, Option.toList_some, Option.toList_none, List.cons_append, List.nil_append, y1, gf_6_3, e1, not_false_eq_true, not_true, if_true, e2, if_false]
    exact hQ h _ (Or.inl rfl) (by unfold wq; rw [if_pos rfl]; exact y4) n0 Frm.rfl'
  · have e1 : ¬ nI 1 = 2 := by decide
    have e2 : ¬ nI 1 = 0 := by decide
    simp only [u_60_0, u_60_1, u_60_2, u_60_5, u_60_5n, u_60_6, u_60_9, u_60_9n, u_60_10, u_60_13, u_60_13n, u_60_14, u_60_17, u_60_20, u_60_23, u_60_23n, u_60_24, u_60_27, u_60_30, u_60_30n, u_60_31, u_60_34, u_60_34n, u_60_35, u_60_36, u_60_39, u_60_39n, u_60_40, u_60_43, u_60_46, u_60_46n, u_60_47, u_60_50, u_60_50n, pm_O_some, pm_w_nil, pm_w_i, pm_w_l, pm_w_r, pm_w_n, pm_c_n, pm_c_i, pm_c_l, pm_c_r, pm_c_u, Nat.reduceAdd, Nat.reduceLeDiff, true_and, Option.toList_some, Option.toList_none, List.cons_append, List.nil_append, y1, gf_6_4, e1, not_false_eq_true, if_true, e2]
    exact hQ h _ (Or.inr rfl) (by unfold wq; rw [if_neg (by decide), if_pos rfl]; exact y5) n0 Frm.rfl'
  · have e1 : nI 2 = 2 := by decide
    simp only [u_60_0, u_60_1, u_60_2, u_60_5, u_60_5n, u_60_6, u_60_9, u_60_9n, u_60_10, u_60_13, u_60_13n, u_60_14, u_60_17, pm_O_some, pm_w_nil, pm_w_i, pm_w_l, pm_w_r, pm_w_n, pm_c_n, pm_c_i, pm_c_l, pm_c_r, pm_c_u, Nat.reduceAdd, Nat.reduceLeDiff, true_and, Option.toList_some, Option.toList_none, List.cons_append, List.nil_append, y1, gf_6_0, gf_6_3, gf_6_4, e1, not_true, if_false, y8.io]
    refine c_cmpSizes y8 y4 y5 y6.1 y6.2 y7.1 y7.2 (by omega) (by omega) (fun h' r1 r2 => ?_)
    have s1 : pm_at B h' (e + 5) = _ := (r2.2.2 _ (by omega)).trans y1
    have n3 : ExR B h' e lq lc gq gc := ⟨s1, ⟨_, _, _, _, _, y2.frm r2 (by omega)⟩, ⟨_, _, _, y3.frm r2 (by omega)⟩, y4.frm r2 (by omega), y5.frm r2 (by omega), y6, y7, r1⟩
    by_cases hc : gq.num.natAbs * lq.den < lq.num.natAbs * gq.den
    · have e5 : ¬ ci (lq.num.natAbs * gq.den) (gq.num.natAbs * lq.den) ≤ 0 := by
        unfold ci
        rw [if_neg (by omega), if_neg (by omega)]
        decide
      simp only [u_60_20, u_60_23, u_60_23n, u_60_24, u_60_27, u_60_30, u_60_30n, u_60_31, u_60_34, u_60_34n, pm_O_some, pm_w_nil, pm_w_i, pm_w_l, pm_w_r, pm_w_n, pm_c_n, pm_c_i, pm_c_l, pm_c_r, pm_c_u, Nat.reduceAdd, Nat.reduceLeDiff, true_and, Option.toList_some, Option.toList_none, List.cons_append, List.nil_append, if_neg e5, s1, gf_6_3]
      exact hQ h' _ (Or.inl rfl) (by unfold wq; rw [if_neg (by decide), if_neg (by decide), if_pos hc]; exact y4.frm r2 (by omega)) n3 (r2.mono (by omega) (by omega))
    · have e5 : ci (lq.num.natAbs * gq.den) (gq.num.natAbs * lq.den) ≤ 0 := by
        unfold ci
        split
        · decide
        · rw [if_pos (by omega)]
          decide
      simp only [u_60_20, u_60_23, u_60_23n, u_60_24, u_60_27, u_60_30, u_60_30n, u_60_31, u_60_34, u_60_34n, pm_O_some, pm_w_nil, pm_w_i, pm_w_l, pm_w_r, pm_w_n, pm_c_n, pm_c_i, pm_c_l, pm_c_r, pm_c_u, Nat.reduceAdd, Nat.reduceLeDiff, true_and, Option.toList_some, Option.toList_none, List.cons_append, List.nil_append, if_pos e5, s1, gf_6_4]
      exact hQ h' _ (Or.inr rfl) (by unfold wq; rw [if_neg (by decide), if_neg (by decide), if_neg hc]; exact y5.frm r2 (by omega)) n3 (r2.mono (by omega) (by omega))
end ST

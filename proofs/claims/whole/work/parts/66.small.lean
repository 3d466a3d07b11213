/-! SMALL METHODS OF THE CLASS: within, find, held, value, unit, joint. -/
theorem i_le {x y : Int32} : x ≤ y ↔ x.toInt ≤ y.toInt := Int32.le_iff_toInt_le
theorem i_lt {x y : Int32} : x < y ↔ x.toInt < y.toInt := Int32.lt_iff_toInt_lt
theorem i_nlt {x y : Int32} : ¬ x < y ↔ y ≤ x := by rw [i_lt, i_le]; omega
theorem i_nle {x y : Int32} : ¬ x ≤ y ↔ y < x := by rw [i_lt, i_le]; omega
def vb (n : Nat) (b : Int32) : Prop := 0 ≤ b.toInt ∧ b.toInt < (n : Int)
def ix (b : Int32) : Nat := b.toNatClampNeg
theorem nI_ix {b : Int32} (h : 0 ≤ b.toInt) : b = nI (ix b) := by
  apply Int32.toInt_inj.mp
  have h2 := b.toInt_lt
  have h3 : ((ix b : Nat) : Int) = b.toInt := by
    show ((b.toInt.toNat : Nat) : Int) = _
    omega
  rw [nI_toInt (by omega), h3]
theorem ix_T {b : Int32} (h : 0 ≤ b.toInt) : ((ix b : Nat) : Int) = b.toInt := by
  show ((b.toInt.toNat : Nat) : Int) = _
  omega
theorem ix_nI {k : Nat} (h : k < 2 ^ 31) : ix (nI k) = k := nI_clamp h
theorem vb_ix {n : Nat} {b : Int32} (h : vb n b) : b = nI (ix b) ∧ ix b < n := ⟨nI_ix h.1, by have := ix_T h.1; have := h.2; omega⟩
def upb (bs : Nat → Bg) (i : Nat) (g : Bg) : Nat → Bg := fun k => if k = i then g else bs k
theorem upb_s {bs : Nat → Bg} {i : Nat} {g : Bg} : upb bs i g i = g := if_pos rfl
theorem upb_n {bs : Nat → Bg} {i k : Nat} {g : Bg} (h : ¬ k = i) : upb bs i g k = bs k := if_neg h
theorem one0 {c : Prop} {_ : Decidable c} : ((if c then (1 : Int32) else 0) = 0) ↔ ¬ c := by
  by_cases z : c
  · rw [if_pos z]; exact ⟨fun w => absurd w (by decide), fun w => absurd z w⟩
  · rw [if_neg z]; exact ⟨fun _ => z, fun _ => rfl⟩
def Kp (B : Nat) (h h' : pm_H) : Prop := h'.length = h.length ∧ pm_sl h' = pm_sl h ∧ ∀ q, B + 71 ≤ q → q < B + 95 → pm_at B h' q = pm_at B h q
def CC (B : Nat) (h : pm_H) (n : Nat) (bs : Nat → Bg) (ln : Nat) (tx : Nat → Nat) (nr : Nat) (sz : Nat → Nat) (tm : Nat → Nat → Tm) (nd : Nat) (dy : Nat → Int) (nl : Nat) (lm ll : Nat → Nat) (jk : Option (Nat × Nat)) : Prop := CA B h n bs ln tx nr sz tm nd dy nl lm ll jk ∧ CW B h
section SM
variable {B : Nat} {X : pm_X} {h h' h2 : pm_H} {Q : Option Value → pm_H → Prop} {e lo hi n ln nr nd nl i : Nat} {bs : Nat → Bg} {tx sz lm ll : Nat → Nat} {tm : Nat → Nat → Tm} {dy : Nat → Int} {jk : Option (Nat × Nat)} {g : Bg} {b x y z ax : Int32}
theorem Kp.of (f1 : Frm B h h' lo hi) (d : hi ≤ B + 71 ∨ B + 95 ≤ lo) : Kp B h h' := ⟨f1.1, f1.2.1, fun q h1 h2 => f1.2.2 q (by omega)⟩
theorem Kp.rfl' : Kp B h h := ⟨rfl, rfl, fun _ _ _ => rfl⟩
theorem Kp.trans (f1 : Kp B h h') (f2 : Kp B h' h2) : Kp B h h2 := ⟨f2.1.trans f1.1, f2.2.1.trans f1.2.1, fun q a b => (f2.2.2 q a b).trans (f1.2.2 q a b)⟩
theorem s_within : PW B X 12 0 [some (.int x), some (.int y), some (.int z)] [] h Q ↔ Q (some (.int (if y ≤ x ∧ x ≤ z then 1 else 0))) h := by
  by_cases h1 : x < y
  · have : ¬ (y ≤ x ∧ x ≤ z) := fun c => i_nlt.mpr c.1 h1
    simp only [u_12_0, u_12_1, u_12_2, u_12_5, u_12_6, u_12_7, u_12_10, u_12_11, u_12_14, u_12_15, u_12_15_0, u_12_15_1, pm_O_some, pm_w_nil, pm_w_i, pm_w_l, pm_w_r, pm_w_n, pm_c_n, pm_c_i, pm_c_l, pm_c_r, pm_c_u, Nat.reduceAdd, Nat.reduceLeDiff, true_and, Option.toList_some, Option.toList_none, List.cons_append, List.nil_append, if_pos h1, if_neg this]
  · by_cases h3 : z < x
    · have : ¬ (y ≤ x ∧ x ≤ z) := fun c => i_nlt.mpr c.2 h3
      simp only [u_12_0, u_12_1, u_12_2, u_12_5, u_12_6, u_12_7, u_12_10, u_12_11, u_12_14, u_12_15, u_12_15_0, u_12_15_1, pm_O_some, pm_w_nil, pm_w_i, pm_w_l, pm_w_r, pm_w_n, pm_c_n, pm_c_i, pm_c_l, pm_c_r, pm_c_u, Nat.reduceAdd, Nat.reduceLeDiff, true_and, Option.toList_some, Option.toList_none, List.cons_append, List.nil_append, if_neg h1, if_pos h3, if_neg this]
    · have : (y ≤ x ∧ x ≤ z) := ⟨i_nlt.mp h1, i_nlt.mp h3⟩
      simp only [u_12_0, u_12_1, u_12_2, u_12_5, u_12_6, u_12_7, u_12_10, u_12_11, u_12_14, u_12_15, u_12_15_0, u_12_15_1, pm_O_some, pm_w_nil, pm_w_i, pm_w_l, pm_w_r, pm_w_n, pm_c_n, pm_c_i, pm_c_l, pm_c_r, pm_c_u, Nat.reduceAdd, Nat.reduceLeDiff, true_and, Option.toList_some, Option.toList_none, List.cons_append, List.nil_append, if_neg h1, if_neg h3, if_pos this]
theorem b_one {c : Prop} {_ : Decidable c} : narrow .boolean (.int (if c then 1 else 0)) = .int (if c then 1 else 0) := by split <;> rfl
theorem s_axis : PW B X 17 0 [some (.int x)] [] h Q ↔ Q (some (.int (if (0 : Int32) ≤ x ∧ x ≤ 2 then 1 else 0))) h := by
  by_cases h1 : (0 : Int32) ≤ x ∧ x ≤ 2
  · simp only [u_17_0, u_17_1, u_17_2, u_17_3, u_17_6, u_17_6_0, u_17_6_1, pm_O_some, pm_w_nil, pm_w_i, pm_w_l, pm_w_r, pm_w_n, pm_c_n, pm_c_i, pm_c_l, pm_c_r, pm_c_u, Nat.reduceAdd, Nat.reduceLeDiff, true_and, Option.toList_some, Option.toList_none, List.cons_append, List.nil_append, s_within, if_pos h1]
  · simp only [u_17_0, u_17_1, u_17_2, u_17_3, u_17_6, u_17_6_0, u_17_6_1, pm_O_some, pm_w_nil, pm_w_i, pm_w_l, pm_w_r, pm_w_n, pm_c_n, pm_c_i, pm_c_l, pm_c_r, pm_c_u, Nat.reduceAdd, Nat.reduceLeDiff, true_and, Option.toList_some, Option.toList_none, List.cons_append, List.nil_append, s_within, if_neg h1]
theorem s_warm : PW B X 73 0 [some (.int x)] [] h Q ↔ Q (some (.int (if (-600 : Int32) ≤ x ∧ x ≤ 900 then 1 else 0))) h := by
  by_cases h1 : (-600 : Int32) ≤ x ∧ x ≤ 900
  · simp only [u_73_0, u_73_1, u_73_4, u_73_7, u_73_10, u_73_10_0, u_73_10_1, pm_O_some, pm_w_nil, pm_w_i, pm_w_l, pm_w_r, pm_w_n, pm_c_n, pm_c_i, pm_c_l, pm_c_r, pm_c_u, Nat.reduceAdd, Nat.reduceLeDiff, true_and, Option.toList_some, Option.toList_none, List.cons_append, List.nil_append, s_within, if_pos h1]
  · simp only [u_73_0, u_73_1, u_73_4, u_73_7, u_73_10, u_73_10_0, u_73_10_1, pm_O_some, pm_w_nil, pm_w_i, pm_w_l, pm_w_r, pm_w_n, pm_c_n, pm_c_i, pm_c_l, pm_c_r, pm_c_u, Nat.reduceAdd, Nat.reduceLeDiff, true_and, Option.toList_some, Option.toList_none, List.cons_append, List.nil_append, s_within, if_neg h1]
theorem s_wrong : PW B X 35 0 [some (.int x)] [] h Q ↔ Q (some (.long (if x = -1 then -2 else -1))) h := by
  by_cases h1 : x = -1
  · simp only [u_35_0, u_35_1, u_35_2, u_35_5, u_35_8, u_35_11, u_35_14, pm_O_some, pm_w_nil, pm_w_i, pm_w_l, pm_w_r, pm_w_n, pm_c_n, pm_c_i, pm_c_l, pm_c_r, pm_c_u, Nat.reduceAdd, Nat.reduceLeDiff, true_and, Option.toList_some, Option.toList_none, List.cons_append, List.nil_append, h1, not_true, if_false, if_true]
  · simp only [u_35_0, u_35_1, u_35_2, u_35_5, u_35_8, u_35_11, u_35_14, pm_O_some, pm_w_nil, pm_w_i, pm_w_l, pm_w_r, pm_w_n, pm_c_n, pm_c_i, pm_c_l, pm_c_r, pm_c_u, Nat.reduceAdd, Nat.reduceLeDiff, true_and, Option.toList_some, Option.toList_none, List.cons_append, List.nil_append, h1, not_false_eq_true, if_false, if_true]
/-- what find reads -/
def CF (B : Nat) (h : pm_H) (n : Nat) : Prop := n ≤ 10 ∧ ∃ (f2 f3 f4 f5 f6 f7 f8 f9 f10 f11 f12 f13 f14 f15 f16 f17 f18 : Value) (fb : Nat → Option Nat), pm_at B h B = some (.inr (0, [.ref (B + 1), .int (nI n), f2, f3, f4, f5, f6, f7, f8, f9, f10, f11, f12, f13, f14, f15, f16, f17, f18])) ∧ pm_at B h (B + 1) = some (.inl (4, 10, .inr (.inr (.inr (.inr fb))))) ∧ ∀ i, i < n → fb i = some (B + 95 + 8 * i)
theorem CA.cf (n1 : CA B h n bs ln tx nr sz tm nd dy nl lm ll jk) : CF B h n := by
  obtain ⟨rs, rs2, lw, jh, jm, ra, h1, h2, ⟨h3, ⟨fb, h4, h5⟩, h6⟩, h7⟩ := n1
  exact ⟨h3, _, _, _, _, _, _, _, _, _, _, _, _, _, _, _, _, _, fb, h1, h4, h5⟩
theorem CF.frm (n1 : CF B h n) (f1 : Frm B h h' lo hi) (d : B + 2 ≤ lo) : CF B h' n := by
  obtain ⟨h1, a2, a3, a4, a5, a6, a7, a8, a9, a10, a11, a12, a13, a14, a15, a16, a17, a18, fb, k1, k2, k3⟩ := n1
  exact ⟨h1, a2, a3, a4, a5, a6, a7, a8, a9, a10, a11, a12, a13, a14, a15, a16, a17, a18, fb, by rw [f1.2.2 _ (by omega)]; exact k1, by rw [f1.2.2 _ (by omega)]; exact k2, k3⟩
theorem CF.io (n1 : CF B h n) : pm_io B h B 0 = true := by
  obtain ⟨h1, a2, a3, a4, a5, a6, a7, a8, a9, a10, a11, a12, a13, a14, a15, a16, a17, a18, fb, k1, k2, k3⟩ := n1
  exact pm_io_of k1
theorem nI_m1 {k : Nat} (h : k < 2 ^ 31) : (nI k - 1).toInt = (k : Int) - 1 := by
  cases k with
  | zero => rfl
  | succ k => rw [nI_pred, nI_toInt (by omega)]; omega
theorem s_find_t (n1 : CF B h n) (hi : i < n) : PW B X 15 0 [some (.ref B), some (.int (nI i))] [] h Q ↔ Q (some (.ref (B + 95 + 8 * i))) h := by
  obtain ⟨h1, a2, a3, a4, a5, a6, a7, a8, a9, a10, a11, a12, a13, a14, a15, a16, a17, a18, fb, k1, k2, k3⟩ := n1
  have e1 : (0 : Int32) ≤ nI i ∧ nI i ≤ nI n - 1 := ⟨nI_pos' (by omega), by rw [i_le, nI_m1 (by omega), nI_toInt (by omega)]; omega⟩
  have e2 : ¬ (10 : Int32) ≤ nI i := nI_ge (b := 10) (by omega) (by decide)
  simp only [u_15_0, u_15_1, u_15_2, u_15_2n, u_15_3, u_15_6, u_15_7, u_15_8, u_15_11, u_15_14, u_15_15, u_15_17, u_15_20, u_15_20n, u_15_21, u_15_24, u_15_25, u_15_26, u_15_29, u_15_30, u_15_30n, pm_O_some, pm_w_nil, pm_w_i, pm_w_l, pm_w_r, pm_w_n, pm_c_n, pm_c_i, pm_c_l, pm_c_r, pm_c_u, Nat.reduceAdd, Nat.reduceLeDiff, true_and, Option.toList_some, Option.toList_none, List.cons_append, List.nil_append, k1, gf_0_0, gf_0_1, s_within, one0, if_neg (not_not_intro e1), if_neg e2, k2, ld_a (k := 0) (pm_ix_of (show i < 10 by omega) (by decide)) (by rfl), nI_clamp (show i < 2 ^ 31 by omega), k3 i hi, va_rf]
theorem s_find_f (n1 : CF B h n) (hb : ¬ vb n b) : PW B X 15 0 [some (.ref B), some (.int b)] [] h Q ↔ Q (some .null) h := by
  obtain ⟨h1, a2, a3, a4, a5, a6, a7, a8, a9, a10, a11, a12, a13, a14, a15, a16, a17, a18, fb, k1, k2, k3⟩ := n1
  have e1 : ¬ ((0 : Int32) ≤ b ∧ b ≤ nI n - 1) := by
    rintro ⟨c1, c2⟩
    rw [i_le, nI_m1 (by omega)] at c2
    rw [i_le] at c1
    exact hb ⟨c1, by omega⟩
  simp only [u_15_0, u_15_1, u_15_2, u_15_2n, u_15_3, u_15_6, u_15_7, u_15_8, u_15_11, u_15_14, u_15_15, u_15_17, u_15_20, u_15_20n, u_15_21, u_15_24, u_15_25, u_15_26, u_15_29, u_15_30, u_15_30n, pm_O_some, pm_w_nil, pm_w_i, pm_w_l, pm_w_r, pm_w_n, pm_c_n, pm_c_i, pm_c_l, pm_c_r, pm_c_u, Nat.reduceAdd, Nat.reduceLeDiff, true_and, Option.toList_some, Option.toList_none, List.cons_append, List.nil_append, k1, gf_0_1, s_within, one0, if_pos e1]
theorem BsV.up (n1 : BsV B h n bs) (hi : i < n) (f1 : Frm B h h' (B + 95 + 8 * i) (B + 95 + 8 * i + 8)) (n2 : BeG B h' (B + 95 + 8 * i) g) (n3 : bgok g) : BsV B h' n (upb bs i g) := by
  obtain ⟨h1, ⟨fb, h2, h3⟩, h4⟩ := n1
  refine ⟨h1, ⟨fb, by rw [f1.2.2 _ (by omega)]; exact h2, h3⟩, fun k hk => ?_⟩
  by_cases hki : k = i
  · subst hki
    rw [upb_s]
    exact ⟨n2, n3⟩
  · rw [upb_n hki]
    exact ⟨(h4 k hk).1.frm f1 (by omega), (h4 k hk).2⟩
theorem CC.up (n1 : CC B h n bs ln tx nr sz tm nd dy nl lm ll jk) (hi : i < n) (f1 : Frm B h h' (B + 95 + 8 * i) (B + 95 + 8 * i + 8)) (n2 : BeG B h' (B + 95 + 8 * i) g) (n3 : bgok g) : CC B h' n (upb bs i g) ln tx nr sz tm nd dy nl lm ll jk := by
  obtain ⟨⟨rs, rs2, lw, jh, jm, ra, h1, h2, h3, h4, h5, h6, h7, h8⟩, n4⟩ := n1
  have a1 : (B + 5 ≤ rs ∧ rs ≤ B + 11) ∧ (B + 5 ≤ rs2 ∧ rs2 ≤ B + 11) := by rcases h2 with ⟨z1, z2⟩ | ⟨z1, z2⟩ <;> omega
  exact ⟨⟨rs, rs2, lw, jh, jm, ra, by rw [f1.2.2 _ (by omega)]; exact h1, h2, h3.up hi f1 n2 n3, h4.frm f1 (by omega), h5.frm f1 (by omega), h6.frm f1 (by omega), h7.frm f1 (by omega), h8⟩, n4.frm f1 (by omega)⟩
theorem CC.bev (n1 : CC B h n bs ln tx nr sz tm nd dy nl lm ll jk) (hi : i < n) : BeG B h (B + 95 + 8 * i) (bs i) ∧ bgok (bs i) := by
  obtain ⟨⟨rs, rs2, lw, jh, jm, ra, h1, h2, ⟨h3, h4, h5⟩, h7⟩, n4⟩ := n1
  exact h5 i hi
theorem BeG.put (n1 : BeG B h e g) (g' : Bg) (hv : g'.2.2.2.2.1 = g.2.2.2.2.1) (hw : g'.2.2.2.2.2.1 = g.2.2.2.2.2.1) :
    BeG B (pm_set B h e (.inr (9, [.int g'.1, .int g'.2.1, .int g'.2.2.1, .int g'.2.2.2.1, .ref (e + 1), .ref (e + 2), .int g'.2.2.2.2.2.2.1, .int g'.2.2.2.2.2.2.2.1, .int g'.2.2.2.2.2.2.2.2, .ref (e + 3)]))) e g' ∧
    Frm B h (pm_set B h e (.inr (9, [.int g'.1, .int g'.2.1, .int g'.2.2.1, .int g'.2.2.2.1, .ref (e + 1), .ref (e + 2), .int g'.2.2.2.2.2.2.1, .int g'.2.2.2.2.2.2.2.1, .int g'.2.2.2.2.2.2.2.2, .ref (e + 3)]))) e (e + 1) := by
  obtain ⟨b0, ⟨fa, fb, c1, c2, c3⟩, s, U, L, c4⟩ := n1
  have F := Frm.set (e := .inr (9, [.int g'.1, .int g'.2.1, .int g'.2.2.1, .int g'.2.2.2.1, .ref (e + 1), .ref (e + 2), .int g'.2.2.2.2.2.2.1, .int g'.2.2.2.2.2.2.2.1, .int g'.2.2.2.2.2.2.2.2, .ref (e + 3)])) b0 rfl
  refine ⟨⟨pm_at_self (pm_v_at b0), ⟨fa, fb, by rw [F.2.2 _ (by omega)]; exact c1, by rw [F.2.2 _ (by omega)]; exact c2, ?_⟩, s, U, L, c4.frm F (by omega)⟩, F⟩
  rw [hv, hw]
  exact c3
def hset (g : Bg) (ax is : Int32) : Bg := if ax = 0 then (g.1, g.2.1, is, g.2.2.2) else (g.1, g.2.1, g.2.2.1, is, g.2.2.2.2)
theorem c_held {is : Int32} (n1 : CC B h n bs ln tx nr sz tm nd dy nl lm ll jk) (hs : is = 0 ∨ is = 1) (hg : vb n b ∧ (ax = 0 ∨ ax = 1) → ∀ h', CC B h' n (upb bs (ix b) (hset (bs (ix b)) ax is)) ln tx nr sz tm nd dy nl lm ll jk → Kp B h h' → Q (some (.int 1)) h') (hb : ¬ (vb n b ∧ (ax = 0 ∨ ax = 1)) → Q (some (.int 0)) h) :
    PW B X 14 0 [some (.ref B), some (.int b), some (.int ax), some (.int is), none] [] h Q := by
  have cf := n1.1.cf
  by_cases h1 : vb n b
  · obtain ⟨e1, e2⟩ := vb_ix h1
    generalize ix b = i at hg e1 e2
    subst e1
    simp only [u_14_0, u_14_0n, u_14_1, u_14_2, u_14_5, u_14_5n, u_14_7, u_14_7n, u_14_9, u_14_9n, u_14_12, u_14_13, u_14_14, u_14_15, pm_O_some, pm_w_nil, pm_w_i, pm_w_l, pm_w_r, pm_w_n, pm_c_n, pm_c_i, pm_c_l, pm_c_r, pm_c_u, Nat.reduceAdd, Nat.reduceLeDiff, true_and, Option.toList_some, Option.toList_none, List.cons_append, List.nil_append, cf.io, s_find_t cf e2, s_within]
    have e5 : ((0 : Int32) ≤ ax ∧ ax ≤ 1) ↔ (ax = 0 ∨ ax = 1) := by
      rw [i_le, i_le, ← Int32.toInt_inj, ← Int32.toInt_inj]
      show ((0 : Int) ≤ ax.toInt ∧ ax.toInt ≤ 1) ↔ (ax.toInt = 0 ∨ ax.toInt = 1)
      omega
    by_cases h2 : ax = 0 ∨ ax = 1
    · have e6 := e5.mpr h2
      obtain ⟨⟨b0, b1, b2⟩, b3⟩ := n1.bev e2
      rcases h2 with z | z
      · subst z
        simp only [u_14_18, u_14_21, u_14_22, u_14_22_0, u_14_22_1, u_14_23, u_14_24, u_14_27, u_14_27n, u_14_29, u_14_30, u_14_33, u_14_36, u_14_36n, u_14_38, u_14_39, u_14_42, u_14_43, u_14_43_0, u_14_43_1, pm_O_some, pm_w_nil, pm_w_i, pm_w_l, pm_w_r, pm_w_n, pm_c_n, pm_c_i, pm_c_l, pm_c_r, pm_c_u, Nat.reduceAdd, Nat.reduceLeDiff, true_and, Option.toList_some, Option.toList_none, List.cons_append, List.nil_append, if_pos e6, show ¬ (1 : Int32) = 0 by decide, not_false_eq_true, not_true, if_true, if_false, b0, pf_9_2 hs]
        obtain ⟨d1, d2⟩ := BeG.put (n1.bev e2).1 ((bs i).1, (bs i).2.1, is, (bs i).2.2.2) rfl rfl
        refine hg ⟨h1, Or.inl rfl⟩ _ (n1.up e2 (d2.mono (by omega) (by omega)) d1 ?_) (Kp.of d2 (by omega))
        obtain ⟨c1, c2, c3, c4, c5⟩ := b3
        exact ⟨c1, c2, hs, c4, c5⟩
      · subst z
        simp only [u_14_18, u_14_21, u_14_22, u_14_22_0, u_14_22_1, u_14_23, u_14_24, u_14_27, u_14_27n, u_14_29, u_14_30, u_14_33, u_14_36, u_14_36n, u_14_38, u_14_39, u_14_42, u_14_43, u_14_43_0, u_14_43_1, pm_O_some, pm_w_nil, pm_w_i, pm_w_l, pm_w_r, pm_w_n, pm_c_n, pm_c_i, pm_c_l, pm_c_r, pm_c_u, Nat.reduceAdd, Nat.reduceLeDiff, true_and, Option.toList_some, Option.toList_none, List.cons_append, List.nil_append, if_pos e6, show ¬ (1 : Int32) = 0 by decide, not_false_eq_true, if_true, b0, pf_9_3 hs]
        obtain ⟨d1, d2⟩ := BeG.put (n1.bev e2).1 ((bs i).1, (bs i).2.1, (bs i).2.2.1, is, (bs i).2.2.2.2) rfl rfl
        refine hg ⟨h1, Or.inr rfl⟩ _ (n1.up e2 (d2.mono (by omega) (by omega)) d1 ?_) (Kp.of d2 (by omega))
        obtain ⟨c1, c2, c3, c4, c5⟩ := b3
        exact ⟨c1, c2, c3, hs, c5⟩
    · have e6 : ¬ ((0 : Int32) ≤ ax ∧ ax ≤ 1) := fun c => h2 (e5.mp c)
      simp only [u_14_18, u_14_21, u_14_22, u_14_22_0, u_14_22_1, pm_O_some, pm_w_nil, pm_w_i, pm_w_l, pm_w_r, pm_w_n, pm_c_n, pm_c_i, pm_c_l, pm_c_r, pm_c_u, Nat.reduceAdd, Nat.reduceLeDiff, true_and, Option.toList_some, Option.toList_none, List.cons_append, List.nil_append, if_neg e6, not_true, if_false]
      exact hb (fun c => h2 c.2)
  · simp only [u_14_0, u_14_0n, u_14_1, u_14_2, u_14_5, u_14_5n, u_14_7, u_14_7n, u_14_9, u_14_9n, u_14_12, u_14_13, u_14_14, u_14_15, u_14_18, u_14_21, u_14_22, u_14_22_0, u_14_22_1, pm_O_some, pm_w_nil, pm_w_i, pm_w_l, pm_w_r, pm_w_n, pm_c_n, pm_c_i, pm_c_l, pm_c_r, pm_c_u, Nat.reduceAdd, Nat.reduceLeDiff, true_and, Option.toList_some, Option.toList_none, List.cons_append, List.nil_append, cf.io, s_find_f cf h1]
    exact hb (fun c => h1 c.1)
end SM

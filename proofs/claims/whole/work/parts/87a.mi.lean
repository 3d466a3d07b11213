/-! THE REFERENCE'S STATE, against the same numbers as the class's. -/
def SO (n : Nat) (bs : Nat → Bg) (ln : Nat) (tx : Nat → Nat) (nr : Nat) (sz : Nat → Nat) (tm : Nat → Nat → Tm) (nd : Nat) (dy : Nat → Int) (nl : Nat) (lm ll : Nat → Nat) (jk : Option (Nat × Nat)) : Prop :=
  (n ≤ 10 ∧ ∀ i, i < n → bgok (bs i) ∧ ∀ kd ax, kd < 8 → ax < 3 → (-1000000 ≤ (bs i).2.2.2.2.1 kd ax ∧ (bs i).2.2.2.2.1 kd ax ≤ 1000000) ∧ 1 ≤ (bs i).2.2.2.2.2.1 kd ax ∧ (bs i).2.2.2.2.2.1 kd ax ≤ 1000) ∧ (ln ≤ 200 ∧ ∀ i, i < ln → 32 ≤ tx i ∧ tx i ≤ 126) ∧ (nr ≤ 8 ∧ ∀ k, k < nr → 1 ≤ sz k ∧ sz k ≤ 6 ∧ ∀ t, t < sz k → tmok (tm k t)) ∧ (nd ≤ 400 ∧ ∀ i, i < nd → -600 ≤ dy i ∧ dy i ≤ 900) ∧ (nl ≤ 12 ∧ ∀ i, i < nl → lm i ≤ 100000 ∧ ll i ≤ 10000000) ∧ (jk = none ∨ ∃ a b, jk = some (a, b) ∧ 1 ≤ a ∧ a ≤ 10000 ∧ 1 ≤ b ∧ b ≤ 10000 ∧ 0 < n)
def df (n : Nat) (bs : Nat → Bg) (i : Nat) : Bg := if i < n then bs i else bg0 0 0
def MBx (B : Nat) (h : pm_H) (m n : Nat) (bs : Nat → Bg) : Prop := ∃ fx fy, pm_at B h (m + 1) = some (.inl (0, 10, .inl fx)) ∧ pm_at B h (m + 2) = some (.inl (0, 10, .inl fy)) ∧ ∀ i, i < n → fx i = (bs i).1 ∧ fy i = (bs i).2.1
def MBh (B : Nat) (h : pm_H) (m n : Nat) (bs : Nat → Bg) : Prop := ∃ fh, pm_at B h (m + 3) = some (.inl (3, 20, .inl fh)) ∧ ∀ i, i < 10 → fh (2 * i) = (df n bs i).2.2.1 ∧ fh (2 * i + 1) = (df n bs i).2.2.2.1
def MBv (B : Nat) (h : pm_H) (m n : Nat) (bs : Nat → Bg) : Prop := ∃ fa fb, pm_at B h (m + 4) = some (.inl (0, 240, .inl fa)) ∧ pm_at B h (m + 5) = some (.inl (0, 240, .inl fb)) ∧ ∀ i kd ax, i < 10 → kd < 8 → ax < 3 → (fa (3 * (10 * kd + i) + ax)).toInt = (df n bs i).2.2.2.2.1 kd ax ∧ fb (3 * (10 * kd + i) + ax) = nI ((df n bs i).2.2.2.2.2.1 kd ax)
def MBt (B : Nat) (h : pm_H) (m ln : Nat) (tx : Nat → Nat) : Prop := ∃ ft, pm_at B h (m + 6) = some (.inl (0, 200, .inl ft)) ∧ ∀ i, i < ln → ft i = nI (tx i)
def trw (ft : Nat → Int32) (d : Nat) (T : Tm) : Prop := ft d = nI T.1 ∧ ft (d + 1) = nI T.2.1 ∧ ft (d + 2) = nI T.2.2.1 ∧ ft (d + 3) = nI T.2.2.2
def MBr (B : Nat) (h : pm_H) (m nr : Nat) (sz : Nat → Nat) (tm : Nat → Nat → Tm) : Prop := ∃ fn ft, pm_at B h (m + 7) = some (.inl (0, 8, .inl fn)) ∧ pm_at B h (m + 8) = some (.inl (0, 192, .inl ft)) ∧ ∀ k, k < nr → fn k = nI (sz k) ∧ ∀ t, t < sz k → trw ft (4 * (6 * k + t)) (tm k t)
def MBj (B : Nat) (h : pm_H) (m n : Nat) (bs : Nat → Bg) : Prop := ∃ fl fg fw, pm_at B h (m + 11) = some (.inl (0, 10, .inl fl)) ∧ pm_at B h (m + 12) = some (.inl (0, 10, .inl fg)) ∧ pm_at B h (m + 13) = some (.inl (0, 10, .inl fw)) ∧ ∀ i, i < 10 → fl i = (df n bs i).2.2.2.2.2.2.1 ∧ fg i = (df n bs i).2.2.2.2.2.2.2.1 ∧ fw i = (df n bs i).2.2.2.2.2.2.2.2
def MBd (B : Nat) (h : pm_H) (m nd : Nat) (dy : Nat → Int) : Prop := ∃ fd, pm_at B h (m + 14) = some (.inl (0, 400, .inl fd)) ∧ ∀ i, i < nd → (fd i).toInt = dy i
def MBl (B : Nat) (h : pm_H) (m nl : Nat) (lm ll : Nat → Nat) : Prop := ∃ fm fl, pm_at B h (m + 15) = some (.inl (0, 12, .inl fm)) ∧ pm_at B h (m + 16) = some (.inl (0, 12, .inl fl)) ∧ ∀ i, i < nl → fm i = nI (lm i) ∧ fl i = nI (ll i)
def MWd (B : Nat) (h : pm_H) (m : Nat) : Prop := ∃ f g, pm_at B h (m + 9) = some (.inl (0, 8, .inl f)) ∧ pm_at B h (m + 10) = some (.inl (0, 192, .inl g))
def MWo (B : Nat) (h : pm_H) (m : Nat) : Prop := ∃ f, pm_at B h (m + 22) = some (.inl (0, 10, .inl f))
def MWr (B : Nat) (h : pm_H) (m : Nat) : Prop := ∃ f, pm_at B h (m + 23) = some (.inl (1, 80, .inr (.inl f)))
def JM (jk : Option (Nat × Nat)) (jh jm : Int32) : Prop := (jk = none ∧ jm = 0) ∨ ∃ a b, jk = some (a, b) ∧ jh = nI a ∧ jm = nI b
def MO (B : Nat) (h : pm_H) (m n ln nr nd nl : Nat) (jk : Option (Nat × Nat)) : Prop := ∃ x8 x9 x13 jh jm x31 x32, MC B h m (nI n) (nI ln) x8 x9 (nI nr) x13 (nI nd) (nI nl) jh jm x31 x32 ∧ JM jk jh jm
def MI (B : Nat) (h : pm_H) (m : Nat) (n : Nat) (bs : Nat → Bg) (ln : Nat) (tx : Nat → Nat) (nr : Nat) (sz : Nat → Nat) (tm : Nat → Nat → Tm) (nd : Nat) (dy : Nat → Int) (nl : Nat) (lm ll : Nat → Nat) (jk : Option (Nat × Nat)) : Prop :=
  MO B h m n ln nr nd nl jk ∧ MBx B h m n bs ∧ MBh B h m n bs ∧ MBv B h m n bs ∧ MBt B h m ln tx ∧ MBr B h m nr sz tm ∧ MBj B h m n bs ∧ MBd B h m nd dy ∧ MBl B h m nl lm ll ∧ MWd B h m ∧ MWo B h m ∧ MWr B h m ∧ ∃ R, NS B h m R
theorem l_le {x y : Int64} : x ≤ y ↔ x.toInt ≤ y.toInt := Int64.le_iff_toInt_le
theorem l_lt {x y : Int64} : x < y ↔ x.toInt < y.toInt := Int64.lt_iff_toInt_lt
theorem wl {x : Int32} {a b : Int64} {p q : Int} (ha : a.toInt = p) (hb : b.toInt = q) : (a ≤ x.toInt64 ∧ x.toInt64 ≤ b) ↔ (p ≤ x.toInt ∧ x.toInt ≤ q) := by
  rw [l_le, l_le, Int32.toInt_toInt64, ha, hb]
theorem df_in {n i : Nat} {bs : Nat → Bg} (h : i < n) : df n bs i = bs i := if_pos h
theorem vb_e {n : Nat} {b : Int32} (hn : n ≤ 10) (h : 0 ≤ b.toInt ∧ b.toInt < (n : Int)) : ∃ i, i < n ∧ b = nI i ∧ ix b = i := by
  have e := nI_ix h.1
  have t : (nI (ix b)).toInt = (ix b : Int) := by
    refine nI_toInt ?_
    have : (ix b : Int) = b.toInt.toNat := rfl
    omega
  rw [← e] at t
  exact ⟨ix b, by omega, e, rfl⟩
theorem df_up {n i j : Nat} {bs : Nat → Bg} {g : Bg} (h : i < n) : df n (upb bs i g) j = if j = i then g else df n bs j := by
  unfold df upb
  by_cases c : j = i
  · rw [if_pos c, if_pos c, if_pos (by omega)]
  · rw [if_neg c, if_neg c]
section MIS
variable {B : Nat} {X : pm_X} {h h' h2 : pm_H} {Q : Option Value → pm_H → Prop} {m lo hi n ln nr nd nl i : Nat} {bs : Nat → Bg} {tx sz lm ll : Nat → Nat} {tm : Nat → Nat → Tm} {dy : Nat → Int} {jk : Option (Nat × Nat)} {g : Bg} {b x y z ax : Int32} {R : Nat → Rg}
theorem MBx.frm (n1 : MBx B h m n bs) (F : Frx B h h' lo hi) (d : hi ≤ m + 1 ∨ m + 3 ≤ lo) : MBx B h' m n bs := by
  obtain ⟨fx, fy, h1, h2, h3⟩ := n1
  exact ⟨fx, fy, (F _ (by omega)).trans h1, (F _ (by omega)).trans h2, h3⟩
theorem MBh.frm (n1 : MBh B h m n bs) (F : Frx B h h' lo hi) (d : hi ≤ m + 3 ∨ m + 4 ≤ lo) : MBh B h' m n bs := by
  obtain ⟨fx, h1, h3⟩ := n1
  exact ⟨fx, (F _ (by omega)).trans h1, h3⟩
theorem MBv.frm (n1 : MBv B h m n bs) (F : Frx B h h' lo hi) (d : hi ≤ m + 4 ∨ m + 6 ≤ lo) : MBv B h' m n bs := by
  obtain ⟨fx, fy, h1, h2, h3⟩ := n1
  exact ⟨fx, fy, (F _ (by omega)).trans h1, (F _ (by omega)).trans h2, h3⟩
theorem MBt.frm (n1 : MBt B h m ln tx) (F : Frx B h h' lo hi) (d : hi ≤ m + 6 ∨ m + 7 ≤ lo) : MBt B h' m ln tx := by
  obtain ⟨fx, h1, h3⟩ := n1
  exact ⟨fx, (F _ (by omega)).trans h1, h3⟩
theorem MBr.frm (n1 : MBr B h m nr sz tm) (F : Frx B h h' lo hi) (d : hi ≤ m + 7 ∨ m + 9 ≤ lo) : MBr B h' m nr sz tm := by
  obtain ⟨fx, fy, h1, h2, h3⟩ := n1
  exact ⟨fx, fy, (F _ (by omega)).trans h1, (F _ (by omega)).trans h2, h3⟩
theorem MBj.frm (n1 : MBj B h m n bs) (F : Frx B h h' lo hi) (d : hi ≤ m + 11 ∨ m + 14 ≤ lo) : MBj B h' m n bs := by
  obtain ⟨fx, fy, fz, h1, h2, h3, h4⟩ := n1
  exact ⟨fx, fy, fz, (F _ (by omega)).trans h1, (F _ (by omega)).trans h2, (F _ (by omega)).trans h3, h4⟩
theorem MBd.frm (n1 : MBd B h m nd dy) (F : Frx B h h' lo hi) (d : hi ≤ m + 14 ∨ m + 15 ≤ lo) : MBd B h' m nd dy := by
  obtain ⟨fx, h1, h3⟩ := n1
  exact ⟨fx, (F _ (by omega)).trans h1, h3⟩
theorem MBl.frm (n1 : MBl B h m nl lm ll) (F : Frx B h h' lo hi) (d : hi ≤ m + 15 ∨ m + 17 ≤ lo) : MBl B h' m nl lm ll := by
  obtain ⟨fx, fy, h1, h2, h3⟩ := n1
  exact ⟨fx, fy, (F _ (by omega)).trans h1, (F _ (by omega)).trans h2, h3⟩
theorem MWd.frm (n1 : MWd B h m) (F : Frx B h h' lo hi) (d : hi ≤ m + 9 ∨ m + 11 ≤ lo) : MWd B h' m := by
  obtain ⟨fx, fy, h1, h2⟩ := n1
  exact ⟨fx, fy, (F _ (by omega)).trans h1, (F _ (by omega)).trans h2⟩
theorem MWo.frm (n1 : MWo B h m) (F : Frx B h h' lo hi) (d : hi ≤ m + 22 ∨ m + 23 ≤ lo) : MWo B h' m := by
  obtain ⟨fx, h1⟩ := n1
  exact ⟨fx, (F _ (by omega)).trans h1⟩
theorem MWr.frm (n1 : MWr B h m) (F : Frx B h h' lo hi) (d : hi ≤ m + 23 ∨ m + 24 ≤ lo) : MWr B h' m := by
  obtain ⟨fx, h1⟩ := n1
  exact ⟨fx, (F _ (by omega)).trans h1⟩
theorem MO.frm (n1 : MO B h m n ln nr nd nl jk) (F : Frx B h h' lo hi) (d : hi ≤ m ∨ m + 1 ≤ lo) : MO B h' m n ln nr nd nl jk := by
  obtain ⟨x8, x9, x13, jh, jm, x31, x32, h1, h2⟩ := n1
  exact ⟨x8, x9, x13, jh, jm, x31, x32, (F _ (by omega)).trans h1, h2⟩
theorem NS.fx (n1 : NS B h m R) (F : Frx B h h' lo hi) (d : hi ≤ m ∨ m + 22 ≤ lo ∨ (m + 1 ≤ lo ∧ hi ≤ m + 17)) : NS B h' m R := by
  obtain ⟨fl, fu, fs, fw, ⟨⟨_, _, _, _, _, _, _, _, _, _, _, _, c⟩, ⟨fp, p1, p2⟩, a1, a2, a3, a4⟩, n3⟩ := n1
  exact ⟨fl, fu, fs, fw, ⟨⟨_, _, _, _, _, _, _, _, _, _, _, _, (F _ (by omega)).trans c⟩, ⟨fp, (F _ (by omega)).trans p1, p2⟩, (F _ (by omega)).trans a1, (F _ (by omega)).trans a2, (F _ (by omega)).trans a3, (F _ (by omega)).trans a4⟩, n3⟩
/-- the object's own cell is set anew -/
theorem NS.obj (n1 : NS B h m R) (F : Frx B h h' m (m + 1)) {y0 y7 y8 y9 y10 y13 y19 y21 y24 y25 y31 y32 : Int32} (c : MC B h' m y0 y7 y8 y9 y10 y13 y19 y21 y24 y25 y31 y32) : NS B h' m R := by
  obtain ⟨fl, fu, fs, fw, ⟨_, ⟨fp, p1, p2⟩, a1, a2, a3, a4⟩, n3⟩ := n1
  exact ⟨fl, fu, fs, fw, ⟨⟨_, _, _, _, _, _, _, _, _, _, _, _, c⟩, ⟨fp, (F _ (by omega)).trans p1, p2⟩, (F _ (by omega)).trans a1, (F _ (by omega)).trans a2, (F _ (by omega)).trans a3, (F _ (by omega)).trans a4⟩, n3⟩
theorem MI.fx (n1 : MI B h m n bs ln tx nr sz tm nd dy nl lm ll jk) (F : Frx B h h' lo hi) (d : hi ≤ m ∨ m + 24 ≤ lo) : MI B h' m n bs ln tx nr sz tm nd dy nl lm ll jk := by
  obtain ⟨a1, a2, a3, a4, a5, a6, a7, a8, a9, a10, a11, a12, R, a13⟩ := n1
  exact ⟨a1.frm F (by omega), a2.frm F (by omega), a3.frm F (by omega), a4.frm F (by omega), a5.frm F (by omega), a6.frm F (by omega), a7.frm F (by omega), a8.frm F (by omega), a9.frm F (by omega), a10.frm F (by omega), a11.frm F (by omega), a12.frm F (by omega), R, a13.fx F (by omega)⟩
/-- only the registers have changed -/
theorem MI.regs (n1 : MI B h m n bs ln tx nr sz tm nd dy nl lm ll jk) (F : Frx B h h' (m + 18) (m + 22)) (n2 : NS B h' m R) : MI B h' m n bs ln tx nr sz tm nd dy nl lm ll jk := by
  obtain ⟨a1, a2, a3, a4, a5, a6, a7, a8, a9, a10, a11, a12, _, a13⟩ := n1
  exact ⟨a1.frm F (by omega), a2.frm F (by omega), a3.frm F (by omega), a4.frm F (by omega), a5.frm F (by omega), a6.frm F (by omega), a7.frm F (by omega), a8.frm F (by omega), a9.frm F (by omega), a10.frm F (by omega), a11.frm F (by omega), a12.frm F (by omega), R, n2⟩
theorem MI.io (n1 : MI B h m n bs ln tx nr sz tm nd dy nl lm ll jk) : pm_io B h m 10 = true := by
  obtain ⟨⟨_, _, _, _, _, _, _, c, _⟩, _⟩ := n1
  exact c.io
theorem CC.fx (n1 : CC B h n bs ln tx nr sz tm nd dy nl lm ll jk) (F : Frx B h h' (B + 71) (B + 95)) : CC B h' n bs ln tx nr sz tm nd dy nl lm ll jk := by
  obtain ⟨⟨rs, rs2, lw, jh, jm, ra, a1, a2, ⟨b1, ⟨fb, b2, b3⟩, b4⟩, a4, a5, a6, a7, a8, a9⟩, n2⟩ := n1
  exact ⟨⟨rs, rs2, lw, jh, jm, ra, (F _ (by omega)).trans a1, a2, ⟨b1, ⟨fb, (F _ (by omega)).trans b2, b3⟩, fun i hi => ⟨(b4 i hi).1.frx F (by omega), (b4 i hi).2⟩⟩, a4.frx F (by omega), a5.frx F (by omega), a6.frx F (by omega), a7.frx F (by omega), a8, a9⟩, n2.frx F (by omega)⟩
theorem CC.so (n1 : CC B h n bs ln tx nr sz tm nd dy nl lm ll jk) : SO n bs ln tx nr sz tm nd dy nl lm ll jk := by
  obtain ⟨⟨rs, rs2, lw, jh, jm, ra, a1, a2, ⟨b1, _, b4⟩, ⟨c1, _, fT, _, _, c4⟩, ⟨fc, fu, fl, fk, fs, _, d2, d3⟩, a6, ⟨e1, f, g, _, _, e4⟩, ⟨g1, g2, _⟩, a9⟩, n2⟩ := n1
  refine ⟨⟨b1, fun i hi => ⟨(b4 i hi).2, fun kd ax hk ha => ?_⟩⟩, ⟨c1, fun i hi => (c4 i hi).2⟩, ⟨d2, fun k hk => ⟨(d3 k hk).2.1, (d3 k hk).2.2.1, fun t ht => ((d3 k hk).2.2.2 t ht).2.2.2.2⟩⟩, ⟨g1, g2⟩, ⟨e1, fun i hi => ⟨(e4 i hi).2.1, (e4 i hi).2.2.2⟩⟩, ?_⟩
  · obtain ⟨_, ⟨fa, fb, _, _, q⟩, _⟩ := (b4 i hi).1
    have := q kd ax hk ha
    exact ⟨this.2.1, this.2.2.2⟩
  · rcases a9 with z | ⟨a, b, z1, _, _, z4, z5, z6, z7, _, z9⟩
    · exact Or.inl z.1
    · exact Or.inr ⟨a, b, z1, z4, z5, z6, z7, z9⟩
theorem s_in {u v w : Int64} : PW B X 94 0 [some (.long u), none, some (.long v), none, some (.long w), none] [] h Q ↔ Q (some (.int (if v ≤ u ∧ u ≤ w then 1 else 0))) h := by
  by_cases h1 : u < v
  · have : ¬ (v ≤ u ∧ u ≤ w) := fun c => by have := l_le.mp c.1; have := l_lt.mp h1; omega
    simp only [u_94_0, u_94_1, u_94_2, u_94_3, u_94_6, u_94_7, u_94_9, u_94_10, u_94_13, u_94_14, u_94_17, u_94_18, u_94_18_0, u_94_18_1, pm_O_some, pm_w_nil, pm_w_i, pm_w_l, pm_w_r, pm_w_n, pm_c_n, pm_c_i, pm_c_l, pm_c_r, pm_c_u, Nat.reduceAdd, Nat.reduceLeDiff, true_and, Option.toList_some, Option.toList_none, List.cons_append, List.nil_append, lg_cmp_lt, lg_cmp_gt, if_pos h1, if_neg this]
  · by_cases h3 : w < u
    · have : ¬ (v ≤ u ∧ u ≤ w) := fun c => by have := l_le.mp c.2; have := l_lt.mp h3; omega
      simp only [u_94_0, u_94_1, u_94_2, u_94_3, u_94_6, u_94_7, u_94_9, u_94_10, u_94_13, u_94_14, u_94_17, u_94_18, u_94_18_0, u_94_18_1, pm_O_some, pm_w_nil, pm_w_i, pm_w_l, pm_w_r, pm_w_n, pm_c_n, pm_c_i, pm_c_l, pm_c_r, pm_c_u, Nat.reduceAdd, Nat.reduceLeDiff, true_and, Option.toList_some, Option.toList_none, List.cons_append, List.nil_append, lg_cmp_lt, lg_cmp_gt, if_neg h1, if_pos h3, if_neg this]
    · have : (v ≤ u ∧ u ≤ w) := ⟨Int64.not_lt.mp h1, Int64.not_lt.mp h3⟩
      simp only [u_94_0, u_94_1, u_94_2, u_94_3, u_94_6, u_94_7, u_94_9, u_94_10, u_94_13, u_94_14, u_94_17, u_94_18, u_94_18_0, u_94_18_1, pm_O_some, pm_w_nil, pm_w_i, pm_w_l, pm_w_r, pm_w_n, pm_c_n, pm_c_i, pm_c_l, pm_c_r, pm_c_u, Nat.reduceAdd, Nat.reduceLeDiff, true_and, Option.toList_some, Option.toList_none, List.cons_append, List.nil_append, lg_cmp_lt, lg_cmp_gt, if_neg h1, if_neg h3, if_pos this]
theorem s_isB {x7 x8 x9 x10 x13 x19 x21 x24 x25 x31 x32 : Int32} (c : MC B h m (nI n) x7 x8 x9 x10 x13 x19 x21 x24 x25 x31 x32) (hn : n ≤ 10) : PW B X 96 0 [some (.ref m), some (.int b)] [] h Q ↔ Q (some (.int (if 0 ≤ b.toInt ∧ b.toInt < (n : Int) then 1 else 0))) h := by
  have e : ((0 : Int64) ≤ b.toInt64 ∧ b.toInt64 ≤ (nI n - 1).toInt64) ↔ (0 ≤ b.toInt ∧ b.toInt < (n : Int)) := by
    rw [wl (a := 0) (b := (nI n - 1).toInt64) (p := 0) (q := (n : Int) - 1) rfl (by rw [Int32.toInt_toInt64, nI_m1 (by omega)])]
    omega
  by_cases c1 : 0 ≤ b.toInt ∧ b.toInt < (n : Int)
  · simp only [u_96_0, u_96_1, u_96_2, u_96_3, u_96_3n, u_96_4, u_96_7, u_96_8, u_96_9, u_96_10, u_96_13, u_96_13_0, u_96_13_1, pm_O_some, pm_w_nil, pm_w_i, pm_w_l, pm_w_r, pm_w_n, pm_c_n, pm_c_i, pm_c_l, pm_c_r, pm_c_u, Nat.reduceAdd, Nat.reduceLeDiff, true_and, Option.toList_some, Option.toList_none, List.cons_append, List.nil_append, c.g0, s_in, if_pos (e.mpr c1), if_pos c1]
  · simp only [u_96_0, u_96_1, u_96_2, u_96_3, u_96_3n, u_96_4, u_96_7, u_96_8, u_96_9, u_96_10, u_96_13, u_96_13_0, u_96_13_1, pm_O_some, pm_w_nil, pm_w_i, pm_w_l, pm_w_r, pm_w_n, pm_c_n, pm_c_i, pm_c_l, pm_c_r, pm_c_u, Nat.reduceAdd, Nat.reduceLeDiff, true_and, Option.toList_some, Option.toList_none, List.cons_append, List.nil_append, c.g0, s_in, if_neg (mt e.mp c1), if_neg c1]
end MIS

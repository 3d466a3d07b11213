/-! THE REFERENCE'S CALLS: unit, day, list, jack, raised, count. -/
def hq (f : Nat → Int32) : Nat → Nat
  | 0 => 0
  | k + 1 => hq f k + (if f k = 0 then 0 else 1)
theorem hq_le {f : Nat → Int32} : ∀ {k : Nat}, hq f k ≤ k
  | 0 => Nat.le_refl _
  | k + 1 => by
    have := hq_le (f := f) (k := k)
    rw [hq]
    split <;> omega
theorem hq_hcn {f : Nat → Int32} {g : Nat → Bg} : ∀ {i : Nat}, (∀ j, j < i → f (2 * j) = (g j).2.2.1 ∧ f (2 * j + 1) = (g j).2.2.2.1) → hq f (2 * i) = hcn g i
  | 0, _ => rfl
  | i + 1, h => by
    have e := h i (by omega)
    show hq f (2 * i + 1 + 1) = _
    rw [hq, hq, hcn, hq_hcn (fun j hj => h j (by omega)), e.1, e.2]
    omega
theorem hcn_congr {f g : Nat → Bg} : ∀ {i : Nat}, (∀ j, j < i → f j = g j) → hcn f i = hcn g i
  | 0, _ => rfl
  | i + 1, h => by rw [hcn, hcn, hcn_congr (fun j hj => h j (by omega)), h i (by omega)]
theorem hcn_df {n : Nat} {bs : Nat → Bg} : ∀ k, hcn (df n bs) (n + k) = hcn bs n
  | 0 => hcn_congr (fun j hj => df_in hj)
  | k + 1 => by
    show hcn (df n bs) (n + k + 1) = _
    have e : df n bs (n + k) = bg0 0 0 := if_neg (by omega)
    rw [hcn, hcn_df k, e]
    rfl
section RS2
variable {B : Nat} {X : pm_X} {h h' h2 : pm_H} {Q : Option Value → pm_H → Prop} {m lo hi n ln nr nd nl i : Nat} {bs : Nat → Bg} {tx sz lm ll : Nat → Nat} {tm : Nat → Nat → Tm} {dy : Nat → Int} {jk : Option (Nat × Nat)} {g : Bg} {b x y z ax w st : Int32} {R : Nat → Rg}
theorem r_unit (so : SO n bs ln tx nr sz tm nd dy nl lm ll jk) (n1 : MI B h m n bs ln tx nr sz tm nd dy nl lm ll jk) (hg : ln < 200 ∧ (32 ≤ x.toInt ∧ x.toInt ≤ 126) → ∀ h', MI B h' m n bs (ln + 1) (ups tx ln (ix x)) nr sz tm nd dy nl lm ll jk → Frm B h h' m (m + 24) → Q (some (.int 1)) h') (hb : ¬ (ln < 200 ∧ (32 ≤ x.toInt ∧ x.toInt ≤ 126)) → Q (some (.int 0)) h) :
    PW B X 98 0 [some (.ref m), some (.int x)] [] h Q := by
  have hl := so.2.1.1
  obtain ⟨⟨x8, x9, x13, jh, jm, x31, x32, c, cj⟩, a2, a3, a4, ⟨ft, b1, b2⟩, a6, a7, a8, a9, a10, a11, a12, R, a13⟩ := n1
  by_cases h1 : ¬ (32 ≤ x.toInt ∧ x.toInt ≤ 126)
  · simp only [u_98_0, u_98_1, u_98_2, u_98_5, u_98_8, u_98_11, u_98_24, u_98_25, u_98_25_0, u_98_25_1, pm_O_some, pm_w_nil, pm_w_i, pm_w_l, pm_w_r, pm_w_n, pm_c_n, pm_c_i, pm_c_l, pm_c_r, pm_c_u, Nat.reduceAdd, Nat.reduceLeDiff, true_and, Option.toList_some, Option.toList_none, List.cons_append, List.nil_append, s_in, wl (a := 32) (b := 126) (p := 32) (q := 126) rfl rfl, one0, ite_not, if_neg h1]
    exact hb (fun z => h1 z.2)
  replace h1 := Decidable.not_not.mp h1
  by_cases h2 : ln = 200
  · have e : ¬ ¬ nI ln = 200 := fun z => z (by rw [h2]; rfl)
    simp only [u_98_0, u_98_1, u_98_2, u_98_5, u_98_8, u_98_11, u_98_14, u_98_14n, u_98_15, u_98_18, u_98_21, u_98_24, u_98_25, u_98_25_0, u_98_25_1, pm_O_some, pm_w_nil, pm_w_i, pm_w_l, pm_w_r, pm_w_n, pm_c_n, pm_c_i, pm_c_l, pm_c_r, pm_c_u, Nat.reduceAdd, Nat.reduceLeDiff, true_and, Option.toList_some, Option.toList_none, List.cons_append, List.nil_append, s_in, wl (a := 32) (b := 126) (p := 32) (q := 126) rfl rfl, one0, ite_not, if_pos h1, c.g7, if_pos (Decidable.not_not.mp e)]
    exact hb (fun z => by omega)
  have e : ¬ nI ln = 200 := fun z => h2 ((nI_eq (b := 200) (by omega) (by decide)).mp z)
  simp only [u_98_0, u_98_1, u_98_2, u_98_5, u_98_8, u_98_11, u_98_14, u_98_14n, u_98_15, u_98_18, u_98_21, u_98_24, u_98_25, u_98_25_0, u_98_25_1, u_98_26, u_98_26n, u_98_27, u_98_30, u_98_30n, u_98_31, u_98_34, u_98_35, pm_O_some, pm_w_nil, pm_w_i, pm_w_l, pm_w_r, pm_w_n, pm_c_n, pm_c_i, pm_c_l, pm_c_r, pm_c_u, Nat.reduceAdd, Nat.reduceLeDiff, true_and, Option.toList_some, Option.toList_none, List.cons_append, List.nil_append, s_in, wl (a := 32) (b := 126) (p := 32) (q := 126) rfl rfl, one0, ite_not, if_pos h1, c.g7, c.g6, if_neg e, b1, st_i (t := 0) (ix_200 (show ln < 200 by omega)) rfl, nI_clamp (show ln < 2 ^ 31 by omega), ty_0]
  have F1 := Frm.set (e := .inl (0, 200, .inl (upd ft ln x))) b1 rfl
  have c1 := c.frm F1 (by omega)
  simp only [u_98_36, u_98_36n, u_98_37, u_98_37i, u_98_38, u_98_41, u_98_42, u_98_43, pm_O_some, pm_w_nil, pm_w_i, pm_w_l, pm_w_r, pm_w_n, pm_c_n, pm_c_i, pm_c_l, pm_c_r, pm_c_u, Nat.reduceAdd, Nat.reduceLeDiff, true_and, Option.toList_some, Option.toList_none, List.cons_append, List.nil_append, c1.g7, c1.p7, nI_1]
  obtain ⟨c2, F2⟩ := c1.s7 (v := nI (ln + 1))
  simp only [u_98_46, u_98_47, u_98_47_0, u_98_47_1, pm_O_some, pm_w_nil, pm_w_i, pm_w_l, pm_w_r, pm_w_n, pm_c_n, pm_c_i, pm_c_l, pm_c_r, pm_c_u, Nat.reduceAdd, Nat.reduceLeDiff, true_and, Option.toList_some, Option.toList_none, List.cons_append, List.nil_append]
  have G : ∀ {P : Prop}, (∀ {lo hi}, (lo ≤ m ∧ m + 7 ≤ hi) → Frm B h _ lo hi → P) → P := fun k => k (lo := m) (hi := m + 7) (by omega) ((F1.mono (by omega) (by omega)).trans (F2.mono (by omega) (by omega)))
  refine hg ⟨by omega, h1⟩ _ ⟨⟨_, _, _, _, _, _, _, c2, cj⟩, (a2.frm F1.fx (by omega)).frm F2.fx (by omega), (a3.frm F1.fx (by omega)).frm F2.fx (by omega), (a4.frm F1.fx (by omega)).frm F2.fx (by omega), ⟨_, (F2.2.2 _ (by omega)).trans (pm_at_self (pm_v_at b1)), fun i hi => ?_⟩, (a6.frm F1.fx (by omega)).frm F2.fx (by omega), (a7.frm F1.fx (by omega)).frm F2.fx (by omega), (a8.frm F1.fx (by omega)).frm F2.fx (by omega), (a9.frm F1.fx (by omega)).frm F2.fx (by omega), (a10.frm F1.fx (by omega)).frm F2.fx (by omega), (a11.frm F1.fx (by omega)).frm F2.fx (by omega), (a12.frm F1.fx (by omega)).frm F2.fx (by omega), R, (a13.fx F1.fx (by omega)).obj F2.fx c2⟩ ((F1.mono (by omega) (by omega)).trans (F2.mono (by omega) (by omega)))
  by_cases ci : i = ln
  · rw [ci, upd_s, ups_s]
    exact nI_ix (by omega)
  · rw [upd_n ci, ups_n ci]
    exact b2 i (by omega)
theorem r_day (so : SO n bs ln tx nr sz tm nd dy nl lm ll jk) (n1 : MI B h m n bs ln tx nr sz tm nd dy nl lm ll jk) (hg : (-600 ≤ w.toInt ∧ w.toInt ≤ 900) ∧ nd < 400 → ∀ h', MI B h' m n bs ln tx nr sz tm (nd + 1) (ups dy nd w.toInt) nl lm ll jk → Frm B h h' m (m + 24) → Q (some (.int (nI (nd + 1)))) h') (hb : ¬ ((-600 ≤ w.toInt ∧ w.toInt ≤ 900) ∧ nd < 400) → Q (some (.int (-1))) h) :
    PW B X 135 0 [some (.ref m), some (.int w)] [] h Q := by
  have hl := so.2.2.2.1.1
  obtain ⟨⟨x8, x9, x13, jh, jm, x31, x32, c, cj⟩, a2, a3, a4, a5, a6, a7, ⟨ft, b1, b2⟩, a9, a10, a11, a12, R, a13⟩ := n1
  by_cases h1 : ¬ (-600 ≤ w.toInt ∧ w.toInt ≤ 900)
  · simp only [u_135_0, u_135_1, u_135_2, u_135_5, u_135_8, u_135_11, u_135_24, u_135_25, pm_O_some, pm_w_nil, pm_w_i, pm_w_l, pm_w_r, pm_w_n, pm_c_n, pm_c_i, pm_c_l, pm_c_r, pm_c_u, Nat.reduceAdd, Nat.reduceLeDiff, true_and, Option.toList_some, Option.toList_none, List.cons_append, List.nil_append, s_in, wl (a := -600) (b := 900) (p := -600) (q := 900) rfl rfl, one0, ite_not, if_neg h1]
    exact hb (fun z => h1 z.1)
  replace h1 := Decidable.not_not.mp h1
  by_cases h2 : nd = 400
  · have e : nI nd = 400 := by rw [h2]; rfl
    simp only [u_135_0, u_135_1, u_135_2, u_135_5, u_135_8, u_135_11, u_135_14, u_135_14n, u_135_15, u_135_18, u_135_21, u_135_24, u_135_25, pm_O_some, pm_w_nil, pm_w_i, pm_w_l, pm_w_r, pm_w_n, pm_c_n, pm_c_i, pm_c_l, pm_c_r, pm_c_u, Nat.reduceAdd, Nat.reduceLeDiff, true_and, Option.toList_some, Option.toList_none, List.cons_append, List.nil_append, s_in, wl (a := -600) (b := 900) (p := -600) (q := 900) rfl rfl, one0, ite_not, if_pos h1, c.g19, if_pos e]
    exact hb (fun z => by omega)
  have e : ¬ nI nd = 400 := fun z => h2 ((nI_eq (b := 400) (by omega) (by decide)).mp z)
  simp only [u_135_0, u_135_1, u_135_2, u_135_5, u_135_8, u_135_11, u_135_14, u_135_14n, u_135_15, u_135_18, u_135_21, u_135_24, u_135_25, u_135_26, u_135_26n, u_135_27, u_135_30, u_135_30n, u_135_31, u_135_34, u_135_35, pm_O_some, pm_w_nil, pm_w_i, pm_w_l, pm_w_r, pm_w_n, pm_c_n, pm_c_i, pm_c_l, pm_c_r, pm_c_u, Nat.reduceAdd, Nat.reduceLeDiff, true_and, Option.toList_some, Option.toList_none, List.cons_append, List.nil_append, s_in, wl (a := -600) (b := 900) (p := -600) (q := 900) rfl rfl, one0, ite_not, if_pos h1, c.g19, c.g20, if_neg e, b1, st_i (t := 0) (ix_400 (show nd < 400 by omega)) rfl, nI_clamp (show nd < 2 ^ 31 by omega), ty_0]
  have F1 := Frm.set (e := .inl (0, 400, .inl (upd ft nd w))) b1 rfl
  have c1 := c.frm F1 (by omega)
  simp only [u_135_36, u_135_36n, u_135_37, u_135_37i, u_135_38, u_135_41, u_135_42, u_135_43, pm_O_some, pm_w_nil, pm_w_i, pm_w_l, pm_w_r, pm_w_n, pm_c_n, pm_c_i, pm_c_l, pm_c_r, pm_c_u, Nat.reduceAdd, Nat.reduceLeDiff, true_and, Option.toList_some, Option.toList_none, List.cons_append, List.nil_append, c1.g19, c1.p19, nI_1]
  obtain ⟨c2, F2⟩ := c1.s19 (v := nI (nd + 1))
  simp only [u_135_46, u_135_46n, u_135_47, u_135_50, pm_O_some, pm_w_nil, pm_w_i, pm_w_l, pm_w_r, pm_w_n, pm_c_n, pm_c_i, pm_c_l, pm_c_r, pm_c_u, Nat.reduceAdd, Nat.reduceLeDiff, true_and, Option.toList_some, Option.toList_none, List.cons_append, List.nil_append, c2.g19]
  refine hg ⟨h1, by omega⟩ _ ⟨⟨_, _, _, _, _, _, _, c2, cj⟩, (a2.frm F1.fx (by omega)).frm F2.fx (by omega), (a3.frm F1.fx (by omega)).frm F2.fx (by omega), (a4.frm F1.fx (by omega)).frm F2.fx (by omega), (a5.frm F1.fx (by omega)).frm F2.fx (by omega), (a6.frm F1.fx (by omega)).frm F2.fx (by omega), (a7.frm F1.fx (by omega)).frm F2.fx (by omega), ⟨_, (F2.2.2 _ (by omega)).trans (pm_at_self (pm_v_at b1)), fun i hi => ?_⟩, (a9.frm F1.fx (by omega)).frm F2.fx (by omega), (a10.frm F1.fx (by omega)).frm F2.fx (by omega), (a11.frm F1.fx (by omega)).frm F2.fx (by omega), (a12.frm F1.fx (by omega)).frm F2.fx (by omega), R, (a13.fx F1.fx (by omega)).obj F2.fx c2⟩ ((F1.mono (by omega) (by omega)).trans (F2.mono (by omega) (by omega)))
  by_cases ci : i = nd
  · rw [ci, upd_s, ups_s]
  · rw [upd_n ci, ups_n ci]
    exact b2 i (by omega)
theorem r_list {l u : Int32} (so : SO n bs ln tx nr sz tm nd dy nl lm ll jk) (n1 : MI B h m n bs ln tx nr sz tm nd dy nl lm ll jk) (hg : nl < 12 ∧ (0 ≤ u.toInt ∧ u.toInt ≤ 100000) ∧ (0 ≤ l.toInt ∧ l.toInt ≤ 10000000) → ∀ h', MI B h' m n bs ln tx nr sz tm nd dy (nl + 1) (ups lm nl (ix u)) (ups ll nl (ix l)) jk → Frm B h h' m (m + 24) → Q (some (.int (nI nl))) h')
    (hb : ¬ (nl < 12 ∧ (0 ≤ u.toInt ∧ u.toInt ≤ 100000) ∧ (0 ≤ l.toInt ∧ l.toInt ≤ 10000000)) → Q (some (.int (-1))) h) :
    PW B X 138 0 [some (.ref m), some (.int u), some (.int l)] [] h Q := by
  have hl := so.2.2.2.2.1.1
  obtain ⟨⟨x8, x9, x13, jh, jm, x31, x32, c, cj⟩, a2, a3, a4, a5, a6, a7, a8, ⟨fm, fl, b1, b2, b3⟩, a10, a11, a12, R, a13⟩ := n1
  by_cases h1 : ¬ (0 ≤ u.toInt ∧ u.toInt ≤ 100000)
  · simp only [u_138_0, u_138_1, u_138_2, u_138_3, u_138_6, u_138_9, u_138_33, u_138_34, pm_O_some, pm_w_nil, pm_w_i, pm_w_l, pm_w_r, pm_w_n, pm_c_n, pm_c_i, pm_c_l, pm_c_r, pm_c_u, Nat.reduceAdd, Nat.reduceLeDiff, true_and, Option.toList_some, Option.toList_none, List.cons_append, List.nil_append, s_in, wl (a := 0) (b := 100000) (p := 0) (q := 100000) rfl rfl, one0, ite_not, if_neg h1]
    exact hb (fun z => h1 z.2.1)
  replace h1 := Decidable.not_not.mp h1
  by_cases h2 : ¬ (0 ≤ l.toInt ∧ l.toInt ≤ 10000000)
  · simp only [u_138_0, u_138_1, u_138_2, u_138_3, u_138_6, u_138_9, u_138_12, u_138_13, u_138_14, u_138_15, u_138_18, u_138_21, u_138_33, u_138_34, pm_O_some, pm_w_nil, pm_w_i, pm_w_l, pm_w_r, pm_w_n, pm_c_n, pm_c_i, pm_c_l, pm_c_r, pm_c_u, Nat.reduceAdd, Nat.reduceLeDiff, true_and, Option.toList_some, Option.toList_none, List.cons_append, List.nil_append, s_in, wl (a := 0) (b := 100000) (p := 0) (q := 100000) rfl rfl, wl (a := 0) (b := 10000000) (p := 0) (q := 10000000) rfl rfl, one0, ite_not, if_pos h1, if_neg h2]
    exact hb (fun z => h2 z.2.2)
  replace h2 := Decidable.not_not.mp h2
  by_cases h3 : nl = 12
  · have e : nI nl = 12 := by rw [h3]; rfl
    simp only [u_138_0, u_138_1, u_138_2, u_138_3, u_138_6, u_138_9, u_138_12, u_138_13, u_138_14, u_138_15, u_138_18, u_138_21, u_138_24, u_138_24n, u_138_25, u_138_28, u_138_30, u_138_33, u_138_34, pm_O_some, pm_w_nil, pm_w_i, pm_w_l, pm_w_r, pm_w_n, pm_c_n, pm_c_i, pm_c_l, pm_c_r, pm_c_u, Nat.reduceAdd, Nat.reduceLeDiff, true_and, Option.toList_some, Option.toList_none, List.cons_append, List.nil_append, s_in, wl (a := 0) (b := 100000) (p := 0) (q := 100000) rfl rfl, wl (a := 0) (b := 10000000) (p := 0) (q := 10000000) rfl rfl, one0, ite_not, if_pos h1, if_pos h2, c.g21, if_pos e]
    exact hb (fun z => by omega)
  have e : ¬ nI nl = 12 := fun z => h3 ((nI_eq (b := 12) (by omega) (by decide)).mp z)
  simp only [u_138_0, u_138_1, u_138_2, u_138_3, u_138_6, u_138_9, u_138_12, u_138_13, u_138_14, u_138_15, u_138_18, u_138_21, u_138_24, u_138_24n, u_138_25, u_138_28, u_138_30, u_138_33, u_138_34, u_138_35, u_138_35n, u_138_36, u_138_39, u_138_39n, u_138_40, u_138_43, u_138_44, pm_O_some, pm_w_nil, pm_w_i, pm_w_l, pm_w_r, pm_w_n, pm_c_n, pm_c_i, pm_c_l, pm_c_r, pm_c_u, Nat.reduceAdd, Nat.reduceLeDiff, true_and, Option.toList_some, Option.toList_none, List.cons_append, List.nil_append, s_in, wl (a := 0) (b := 100000) (p := 0) (q := 100000) rfl rfl, wl (a := 0) (b := 10000000) (p := 0) (q := 10000000) rfl rfl, one0, ite_not, if_pos h1, if_pos h2, c.g21, c.g22, if_neg e, b1, st_i (t := 0) (ix_12 (show nl < 12 by omega)) rfl, nI_clamp (show nl < 2 ^ 31 by omega), ty_0]
  have F1 := Frm.set (e := .inl (0, 12, .inl (upd fm nl u))) b1 rfl
  have c1 := c.frm F1 (by omega)
  have d2 := (F1.2.2 (m + 16) (by omega)).trans b2
  simp only [u_138_45, u_138_45n, u_138_46, u_138_49, u_138_49n, u_138_50, u_138_53, u_138_54, pm_O_some, pm_w_nil, pm_w_i, pm_w_l, pm_w_r, pm_w_n, pm_c_n, pm_c_i, pm_c_l, pm_c_r, pm_c_u, Nat.reduceAdd, Nat.reduceLeDiff, true_and, Option.toList_some, Option.toList_none, List.cons_append, List.nil_append, c1.g21, c1.g23, d2, st_i (t := 0) (ix_12 (show nl < 12 by omega)) rfl, nI_clamp (show nl < 2 ^ 31 by omega), ty_0]
  have F2 := Frm.set (e := .inl (0, 12, .inl (upd fl nl l))) d2 rfl
  have c2 := c1.frm F2 (by omega)
  simp only [u_138_55, u_138_55n, u_138_56, u_138_56i, u_138_57, u_138_60, u_138_61, u_138_62, pm_O_some, pm_w_nil, pm_w_i, pm_w_l, pm_w_r, pm_w_n, pm_c_n, pm_c_i, pm_c_l, pm_c_r, pm_c_u, Nat.reduceAdd, Nat.reduceLeDiff, true_and, Option.toList_some, Option.toList_none, List.cons_append, List.nil_append, c2.g21, c2.p21, nI_1]
  obtain ⟨c3, F3⟩ := c2.s21 (v := nI (nl + 1))
  simp only [u_138_65, u_138_65n, u_138_66, u_138_69, u_138_70, u_138_71, pm_O_some, pm_w_nil, pm_w_i, pm_w_l, pm_w_r, pm_w_n, pm_c_n, pm_c_i, pm_c_l, pm_c_r, pm_c_u, Nat.reduceAdd, Nat.reduceLeDiff, true_and, Option.toList_some, Option.toList_none, List.cons_append, List.nil_append, c3.g21, nI_pred]
  have G : Frm B h _ (m + 15) (m + 17) := (F1.mono (by omega) (by omega)).trans (F2.mono (by omega) (by omega))
  refine hg ⟨by omega, h1, h2⟩ _ ⟨⟨_, _, _, _, _, _, _, c3, cj⟩, (a2.frm G.fx (by omega)).frm F3.fx (by omega), (a3.frm G.fx (by omega)).frm F3.fx (by omega), (a4.frm G.fx (by omega)).frm F3.fx (by omega), (a5.frm G.fx (by omega)).frm F3.fx (by omega), (a6.frm G.fx (by omega)).frm F3.fx (by omega), (a7.frm G.fx (by omega)).frm F3.fx (by omega), (a8.frm G.fx (by omega)).frm F3.fx (by omega), ⟨_, _, (F3.2.2 _ (by omega)).trans ((F2.2.2 _ (by omega)).trans (pm_at_self (pm_v_at b1))), (F3.2.2 _ (by omega)).trans (pm_at_self (pm_v_at d2)), fun i hi => ?_⟩, (a10.frm G.fx (by omega)).frm F3.fx (by omega), (a11.frm G.fx (by omega)).frm F3.fx (by omega), (a12.frm G.fx (by omega)).frm F3.fx (by omega), R, (a13.fx G.fx (by omega)).obj F3.fx c3⟩ ((G.mono (by omega) (by omega)).trans (F3.mono (by omega) (by omega)))
  by_cases ci : i = nl
  · rw [ci, upd_s, ups_s, upd_s, ups_s]
    exact ⟨nI_ix (by omega), nI_ix (by omega)⟩
  · rw [upd_n ci, ups_n ci, upd_n ci, ups_n ci]
    exact b3 i (by omega)
theorem r_jack {ht mo : Int32} (so : SO n bs ln tx nr sz tm nd dy nl lm ll jk) (n1 : MI B h m n bs ln tx nr sz tm nd dy nl lm ll jk) (hg : 0 < n ∧ (1 ≤ ht.toInt ∧ ht.toInt ≤ 10000) ∧ (1 ≤ mo.toInt ∧ mo.toInt ≤ 10000) → ∀ h', MI B h' m n bs ln tx nr sz tm nd dy nl lm ll (some (ix ht, ix mo)) → Frm B h h' m (m + 24) → Q (some (.int (nI ((ix ht + ix mo - 1) / ix mo * n)))) h')
    (hb : ¬ (0 < n ∧ (1 ≤ ht.toInt ∧ ht.toInt ≤ 10000) ∧ (1 ≤ mo.toInt ∧ mo.toInt ≤ 10000)) → Q (some (.int (-1))) h) : PW B X 141 0 [some (.ref m), some (.int ht), some (.int mo)] [] h Q := by
  have hn := so.1.1
  obtain ⟨⟨x8, x9, x13, jh, jm, x31, x32, c, cj⟩, a2, a3, a4, a5, a6, a7, a8, a9, a10, a11, a12, R, a13⟩ := n1
  by_cases h1 : ¬ (1 ≤ ht.toInt ∧ ht.toInt ≤ 10000)
  · simp only [u_141_0, u_141_1, u_141_2, u_141_3, u_141_6, u_141_9, u_141_31, u_141_32, pm_O_some, pm_w_nil, pm_w_i, pm_w_l, pm_w_r, pm_w_n, pm_c_n, pm_c_i, pm_c_l, pm_c_r, pm_c_u, Nat.reduceAdd, Nat.reduceLeDiff, true_and, Option.toList_some, Option.toList_none, List.cons_append, List.nil_append, s_in, wl (a := 1) (b := 10000) (p := 1) (q := 10000) rfl rfl, one0, ite_not, if_neg h1]
    exact hb (fun z => h1 z.2.1)
  replace h1 := Decidable.not_not.mp h1
  by_cases h2 : ¬ (1 ≤ mo.toInt ∧ mo.toInt ≤ 10000)
  · simp only [u_141_0, u_141_1, u_141_2, u_141_3, u_141_6, u_141_9, u_141_12, u_141_13, u_141_14, u_141_15, u_141_18, u_141_21, u_141_31, u_141_32, pm_O_some, pm_w_nil, pm_w_i, pm_w_l, pm_w_r, pm_w_n, pm_c_n, pm_c_i, pm_c_l, pm_c_r, pm_c_u, Nat.reduceAdd, Nat.reduceLeDiff, true_and, Option.toList_some, Option.toList_none, List.cons_append, List.nil_append, s_in, wl (a := 1) (b := 10000) (p := 1) (q := 10000) rfl rfl, one0, ite_not, if_pos h1, if_neg h2]
    exact hb (fun z => h2 z.2.2)
  replace h2 := Decidable.not_not.mp h2
  by_cases h3 : n = 0
  · have e : nI n = 0 := by rw [h3]; rfl
    simp only [u_141_0, u_141_1, u_141_2, u_141_3, u_141_6, u_141_9, u_141_12, u_141_13, u_141_14, u_141_15, u_141_18, u_141_21, u_141_24, u_141_24n, u_141_25, u_141_28, u_141_31, u_141_32, pm_O_some, pm_w_nil, pm_w_i, pm_w_l, pm_w_r, pm_w_n, pm_c_n, pm_c_i, pm_c_l, pm_c_r, pm_c_u, Nat.reduceAdd, Nat.reduceLeDiff, true_and, Option.toList_some, Option.toList_none, List.cons_append, List.nil_append, s_in, wl (a := 1) (b := 10000) (p := 1) (q := 10000) rfl rfl, one0, ite_not, if_pos h1, if_pos h2, c.g0, if_pos e]
    exact hb (fun z => by omega)
  have e : ¬ nI n = 0 := nI_ne0 (by omega) (by omega)
  simp only [u_141_0, u_141_1, u_141_2, u_141_3, u_141_6, u_141_9, u_141_12, u_141_13, u_141_14, u_141_15, u_141_18, u_141_21, u_141_24, u_141_24n, u_141_25, u_141_28, u_141_31, u_141_32, u_141_33, u_141_33n, u_141_34, u_141_35, pm_O_some, pm_w_nil, pm_w_i, pm_w_l, pm_w_r, pm_w_n, pm_c_n, pm_c_i, pm_c_l, pm_c_r, pm_c_u, Nat.reduceAdd, Nat.reduceLeDiff, true_and, Option.toList_some, Option.toList_none, List.cons_append, List.nil_append, s_in, wl (a := 1) (b := 10000) (p := 1) (q := 10000) rfl rfl, one0, ite_not, if_pos h1, if_pos h2, c.g0, if_neg e, c.p24]
  obtain ⟨c1, F1⟩ := c.s24 (v := ht)
  simp only [u_141_38, u_141_38n, u_141_39, u_141_40, pm_O_some, pm_w_nil, pm_w_i, pm_w_l, pm_w_r, pm_w_n, pm_c_n, pm_c_i, pm_c_l, pm_c_r, pm_c_u, Nat.reduceAdd, Nat.reduceLeDiff, true_and, Option.toList_some, Option.toList_none, List.cons_append, List.nil_append, c1.p25]
  obtain ⟨c2, F2⟩ := c1.s25 (v := mo)
  have hg2 := hg ⟨by omega, h1, h2⟩
  clear hg
  have k1 := nI_ix (b := ht) (by omega)
  have k2 := ix_T (b := ht) (by omega)
  generalize ix ht = aa at hg2 k1 k2
  have k3 := nI_ix (b := mo) (by omega)
  have k4 := ix_T (b := mo) (by omega)
  generalize ix mo = bb at hg2 k3 k4
  subst k1
  subst k3
  have e5 : nI (aa + bb) - 1 = nI (aa + bb - 1) := by
    obtain ⟨c, hc⟩ : ∃ c, aa + bb = c + 1 := ⟨aa + bb - 1, by omega⟩
    rw [hc, nI_pred]
    rfl
  have e6 : ¬ nI bb = 0 := nI_ne0 (by omega) (by omega)
  simp only [u_141_43, u_141_44, u_141_45, u_141_46, u_141_47, u_141_48, u_141_49, u_141_50, u_141_50n, u_141_51, u_141_54, u_141_55, pm_O_some, pm_w_nil, pm_w_i, pm_w_l, pm_w_r, pm_w_n, pm_c_n, pm_c_i, pm_c_l, pm_c_r, pm_c_u, Nat.reduceAdd, Nat.reduceLeDiff, true_and, Option.toList_some, Option.toList_none, List.cons_append, List.nil_append, nI_add, e5, e6, not_false_eq_true, nI_div (show aa + bb - 1 < 2 ^ 31 by omega) (show 0 < bb by omega) (show bb < 2 ^ 31 by omega), c2.g0, nI_mul]
  have G : Frm B h _ m (m + 1) := F1.trans F2
  exact hg2 _ ⟨⟨_, _, _, _, _, _, _, c2, Or.inr ⟨aa, bb, rfl, rfl, rfl⟩⟩, a2.frm G.fx (by omega), a3.frm G.fx (by omega), a4.frm G.fx (by omega), a5.frm G.fx (by omega), a6.frm G.fx (by omega), a7.frm G.fx (by omega), a8.frm G.fx (by omega), a9.frm G.fx (by omega), a10.frm G.fx (by omega), a11.frm G.fx (by omega), a12.frm G.fx (by omega), R, a13.obj G.fx c2⟩ (G.mono (by omega) (by omega))
theorem r_raised (so : SO n bs ln tx nr sz tm nd dy nl lm ll jk) (n1 : MI B h m n bs ln tx nr sz tm nd dy nl lm ll jk) (hg : VR jk n st b → Q (some (.int (nI (rsv jk n st b)))) h) (hb : ¬ VR jk n st b → Q (some (.int (-1))) h) :
    PW B X 142 0 [some (.ref m), some (.int st), some (.int b), none, none, none] [] h Q := by
  have hn := so.1.1
  have hj := so.2.2.2.2.2
  obtain ⟨⟨x8, x9, x13, jh, jm, x31, x32, c, cj⟩, n2⟩ := n1
  rcases cj with ⟨c1, c2⟩ | ⟨aa, bb, c1, c2, c3⟩
  · subst c2
    simp only [u_142_0, u_142_0n, u_142_1, u_142_4, u_142_46, u_142_47, pm_O_some, pm_w_nil, pm_w_i, pm_w_l, pm_w_r, pm_w_n, pm_c_n, pm_c_i, pm_c_l, pm_c_r, pm_c_u, Nat.reduceAdd, Nat.reduceLeDiff, true_and, Option.toList_some, Option.toList_none, List.cons_append, List.nil_append, c.g25, i00, if_true]
    refine hb ?_
    rintro ⟨p, q, d, _⟩
    rw [c1] at d
    cases d
  · subst c1
    subst c2
    subst c3
    obtain ⟨c4, c5, c6, c7, c9⟩ : 1 ≤ aa ∧ aa ≤ 10000 ∧ 1 ≤ bb ∧ bb ≤ 10000 ∧ 0 < n := by
      rcases hj with z | ⟨p, q, z1, z2⟩
      · cases z
      · cases z1
        exact z2
    have hR := rnd_le c5 c6 c7 hn
    have e1 : ¬ nI bb = 0 := nI_ne0 c6 (by omega)
    have e2 : ¬ nI n = 0 := nI_ne0 c9 (by omega)
    have e5 : nI (aa + bb) - 1 = nI (aa + bb - 1) := by
      obtain ⟨c, hc⟩ : ∃ c, aa + bb = c + 1 := ⟨aa + bb - 1, by omega⟩
      rw [hc, nI_pred]
      rfl
    have e3 : ((0 : Int64) ≤ st.toInt64 ∧ st.toInt64 ≤ (nI ((aa + bb - 1) / bb * n)).toInt64) ↔ (0 ≤ st.toInt ∧ st.toInt ≤ (((aa + bb - 1) / bb * n : Nat) : Int)) := wl rfl (by rw [Int32.toInt_toInt64, nI_toInt (by omega)])
    by_cases v2 : ¬ (0 ≤ b.toInt ∧ b.toInt < (n : Int))
    · simp only [u_142_0, u_142_0n, u_142_1, u_142_4, u_142_7, u_142_7n, u_142_8, u_142_9, u_142_12, u_142_46, u_142_47, pm_O_some, pm_w_nil, pm_w_i, pm_w_l, pm_w_r, pm_w_n, pm_c_n, pm_c_i, pm_c_l, pm_c_r, pm_c_u, Nat.reduceAdd, Nat.reduceLeDiff, true_and, Option.toList_some, Option.toList_none, List.cons_append, List.nil_append, c.io, c.g25, if_neg e1, s_isB c hn, one0, ite_not, if_neg v2]
      refine hb ?_
      rintro ⟨p, q, d, d2, _⟩
      exact v2 d2
    replace v2 := Decidable.not_not.mp v2
    by_cases v1 : ¬ (0 ≤ st.toInt ∧ st.toInt ≤ (((aa + bb - 1) / bb * n : Nat) : Int))
    · simp only [u_142_0, u_142_0n, u_142_1, u_142_4, u_142_7, u_142_7n, u_142_8, u_142_9, u_142_12, u_142_15, u_142_16, u_142_17, u_142_18, u_142_18n, u_142_19, u_142_22, u_142_22n, u_142_23, u_142_26, u_142_27, u_142_28, u_142_29, u_142_29n, u_142_30, u_142_33, u_142_34, u_142_34n, u_142_35, u_142_38, u_142_39, u_142_40, u_142_43, u_142_46, u_142_47, pm_O_some, pm_w_nil, pm_w_i, pm_w_l, pm_w_r, pm_w_n, pm_c_n, pm_c_i, pm_c_l, pm_c_r, pm_c_u, Nat.reduceAdd, Nat.reduceLeDiff, true_and, Option.toList_some, Option.toList_none, List.cons_append, List.nil_append, c.io, c.g25, c.g24, c.g0, if_neg e1, e1, not_false_eq_true, s_isB c hn, one0, ite_not, if_pos v2, nI_add, e5, nI_div (show aa + bb - 1 < 2 ^ 31 by omega) (show 0 < bb by omega) (show bb < 2 ^ 31 by omega), nI_mul, s_in, e3, if_neg v1]
      refine hb ?_
      rintro ⟨p, q, d, d2, d3⟩
      cases d
      exact v1 d3
    replace v1 := Decidable.not_not.mp v1
    have hg2 := hg ⟨aa, bb, rfl, v2, v1⟩
    obtain ⟨k1, k2⟩ := vb_ix v2
    have k3 := nI_ix v1.1
    have k4 := ix_T v1.1
    clear hg
    unfold rsv at hg2
    simp only at hg2
    simp only [u_142_0, u_142_0n, u_142_1, u_142_4, u_142_7, u_142_7n, u_142_8, u_142_9, u_142_12, u_142_15, u_142_16, u_142_17, u_142_18, u_142_18n, u_142_19, u_142_22, u_142_22n, u_142_23, u_142_26, u_142_27, u_142_28, u_142_29, u_142_29n, u_142_30, u_142_33, u_142_34, u_142_34n, u_142_35, u_142_38, u_142_39, u_142_40, u_142_43, pm_O_some, pm_w_nil, pm_w_i, pm_w_l, pm_w_r, pm_w_n, pm_c_n, pm_c_i, pm_c_l, pm_c_r, pm_c_u, Nat.reduceAdd, Nat.reduceLeDiff, true_and, Option.toList_some, Option.toList_none, List.cons_append, List.nil_append, c.io, c.g25, c.g24, c.g0, if_neg e1, e1, not_false_eq_true, s_isB c hn, one0, ite_not, if_pos v2, nI_add, e5, nI_div (show aa + bb - 1 < 2 ^ 31 by omega) (show 0 < bb by omega) (show bb < 2 ^ 31 by omega), nI_mul, s_in, e3, if_pos v1]
    generalize ix b = i at k1 k2 hg2
    generalize ix st = s at k3 k4 hg2
    clear e3 v2
    subst k1
    subst k3
    have hs : s ≤ (aa + bb - 1) / bb * n := by omega
    have hsn : s % n < n := Nat.mod_lt s c9
    have hdn : s / n ≤ s := Nat.div_le_self _ _
    have hq := rt_le (k := i) c9 c6 hs
    have hq2 : (aa + bb - 1) / bb * bb ≤ aa + bb - 1 := Nat.div_mul_le_self _ _
    have hq3 := Nat.mul_le_mul_right bb hq
    unfold rsd at hg2
    have erem : nI s - nI (s / n * n) = nI (s % n) := by
      rw [← nI_mul, ← nI_div (show s < 2 ^ 31 by omega) c9 (show n < 2 ^ 31 by omega)]
      exact nI_rem (by omega) c9 (by omega)
    have fin : ∀ q, q * bb ≤ aa + bb - 1 → Q (some (.int (nI (if aa < q * bb then aa else q * bb)))) h → PW B X 142 71 [some (.ref m), some (.int (nI s)), some (.int (nI i)), some (.int (nI q)), none, none] [] h Q := by
      intro q hq hQ
      have hqq : q ≤ q * bb := Nat.le_mul_of_pos_right _ (by omega)
      have em : (nI q).toInt64 * (nI bb).toInt64 = lN (q * bb) := by rw [nI_l (by omega), nI_l (by omega), lN_mul]
      have el : (nI aa).toInt64 = lN aa := nI_l (by omega)
      by_cases f2 : aa < q * bb
      · rw [if_pos f2] at hQ
        have e7 : ¬ lN (q * bb) ≤ lN aa := fun z => by have := (pk_lLE (by omega) (by omega)).mp z; omega
        simp only [u_142_71, u_142_72, u_142_73, u_142_73n, u_142_74, u_142_77, u_142_78, u_142_79, u_142_81, u_142_83, u_142_83n, u_142_84, u_142_87, u_142_88, u_142_89, u_142_92, u_142_92n, u_142_93, u_142_96, u_142_99, u_142_101, u_142_102, pm_O_some, pm_w_nil, pm_w_i, pm_w_l, pm_w_r, pm_w_n, pm_c_n, pm_c_i, pm_c_l, pm_c_r, pm_c_u, Nat.reduceAdd, Nat.reduceLeDiff, true_and, Option.toList_some, Option.toList_none, List.cons_append, List.nil_append, c.g25, c.g24, em, el, lg_cmp_le, if_neg e7]
        exact hQ
      · rw [if_neg f2] at hQ
        have e7 : lN (q * bb) ≤ lN aa := (pk_lLE (by omega) (by omega)).mpr (by omega)
        have e8 : (lN (q * bb)).toInt32 = nI (q * bb) := Int64.toInt32_ofNat'
        simp only [u_142_71, u_142_72, u_142_73, u_142_73n, u_142_74, u_142_77, u_142_78, u_142_79, u_142_81, u_142_83, u_142_83n, u_142_84, u_142_87, u_142_88, u_142_89, u_142_92, u_142_92n, u_142_93, u_142_96, u_142_99, u_142_101, u_142_102, pm_O_some, pm_w_nil, pm_w_i, pm_w_l, pm_w_r, pm_w_n, pm_c_n, pm_c_i, pm_c_l, pm_c_r, pm_c_u, Nat.reduceAdd, Nat.reduceLeDiff, true_and, Option.toList_some, Option.toList_none, List.cons_append, List.nil_append, c.g25, c.g24, em, el, lg_cmp_le, if_pos e7, e8]
        exact hQ
    by_cases f1 : i < s % n
    · rw [if_pos f1] at hg2 hq hq3
      have e5 : ¬ nI (s % n) ≤ nI i := nI_ge f1 (by omega)
      simp only [u_142_48, u_142_49, u_142_49n, u_142_50, u_142_53, u_142_54, u_142_55, u_142_56, u_142_56n, u_142_57, u_142_60, u_142_61, u_142_64, u_142_65, u_142_68, u_142_69, u_142_70, pm_O_some, pm_w_nil, pm_w_i, pm_w_l, pm_w_r, pm_w_n, pm_c_n, pm_c_i, pm_c_l, pm_c_r, pm_c_u, Nat.reduceAdd, Nat.reduceLeDiff, true_and, Option.toList_some, Option.toList_none, List.cons_append, List.nil_append, c.g0, e2, not_false_eq_true, nI_div (show s < 2 ^ 31 by omega) c9 (show n < 2 ^ 31 by omega), nI_mul, erem, if_neg e5, nI_1]
      exact fin _ (by omega) hg2
    · rw [if_neg f1] at hg2 hq hq3
      have e5 : nI (s % n) ≤ nI i := nI_le (by omega) (by omega)
      simp only [u_142_48, u_142_49, u_142_49n, u_142_50, u_142_53, u_142_54, u_142_55, u_142_56, u_142_56n, u_142_57, u_142_60, u_142_61, u_142_64, u_142_65, u_142_68, u_142_69, u_142_70, pm_O_some, pm_w_nil, pm_w_i, pm_w_l, pm_w_r, pm_w_n, pm_c_n, pm_c_i, pm_c_l, pm_c_r, pm_c_u, Nat.reduceAdd, Nat.reduceLeDiff, true_and, Option.toList_some, Option.toList_none, List.cons_append, List.nil_append, c.g0, e2, not_false_eq_true, nI_div (show s < 2 ^ 31 by omega) c9 (show n < 2 ^ 31 by omega), nI_mul, erem, if_pos e5, Int32.add_zero]
      exact fin _ (by rw [Nat.add_zero] at hq3; omega) hg2
theorem r_count (so : SO n bs ln tx nr sz tm nd dy nl lm ll jk) (n1 : MI B h m n bs ln tx nr sz tm nd dy nl lm ll jk) (hQ : Q (some (.int (cnt n bs ln nr sz nd nl w))) h) : PW B X 145 0 [some (.ref m), some (.int w), none, none, none] [] h Q := by
  have hn := so.1.1
  have hr := so.2.2.1
  obtain ⟨⟨x8, x9, x13, jh, jm, x31, x32, c, cj⟩, a2, ⟨fh, b1, b2⟩, a4, a5, ⟨fn, ft, d1, d2, d3⟩, n2⟩ := n1
  have hh : hq fh 20 = hcn bs n := by
    have := hq_hcn (f := fh) (g := df n bs) (i := 10) (fun j hj => b2 j hj)
    rw [show (2 * 10 : Nat) = 20 from rfl] at this
    rw [this]
    have := hcn_df (n := n) (bs := bs) (10 - n)
    rw [show n + (10 - n) = 10 by omega] at this
    exact this
  have fin : PW B X 145 63 [some (.ref m), some (.int w), some (.int (nI (hcn bs n))), some (.int (nI (su sz nr))), some (.int (nI nr))] [] h Q := by
    unfold cnt at hQ
    by_cases w0 : w = 0
    · subst w0
      simp only [u_145_63, u_145_108, u_145_108n, u_145_109, u_145_112, u_145_64_0, pm_O_some, pm_w_nil, pm_w_i, pm_w_l, pm_w_r, pm_w_n, pm_c_n, pm_c_i, pm_c_l, pm_c_r, pm_c_u, Nat.reduceAdd, Nat.reduceLeDiff, true_and, Option.toList_some, Option.toList_none, List.cons_append, List.nil_append, c.g0]
      exact hQ
    rw [if_neg w0] at hQ
    by_cases w1 : w = 1
    · subst w1
      simp only [u_145_63, u_145_113, u_145_113n, u_145_114, u_145_117, u_145_64_1, pm_O_some, pm_w_nil, pm_w_i, pm_w_l, pm_w_r, pm_w_n, pm_c_n, pm_c_i, pm_c_l, pm_c_r, pm_c_u, Nat.reduceAdd, Nat.reduceLeDiff, true_and, Option.toList_some, Option.toList_none, List.cons_append, List.nil_append, c.g10]
      exact hQ
    rw [if_neg w1] at hQ
    by_cases w2 : w = 2
    · subst w2
      simp only [u_145_63, u_145_118, u_145_119, u_145_64_2, pm_O_some, pm_w_nil, pm_w_i, pm_w_l, pm_w_r, pm_w_n, pm_c_n, pm_c_i, pm_c_l, pm_c_r, pm_c_u, Nat.reduceAdd, Nat.reduceLeDiff, true_and, Option.toList_some, Option.toList_none, List.cons_append, List.nil_append]
      exact hQ
    rw [if_neg w2] at hQ
    by_cases w3 : w = 3
    · subst w3
      simp only [u_145_63, u_145_120, u_145_120n, u_145_121, u_145_124, u_145_64_3, pm_O_some, pm_w_nil, pm_w_i, pm_w_l, pm_w_r, pm_w_n, pm_c_n, pm_c_i, pm_c_l, pm_c_r, pm_c_u, Nat.reduceAdd, Nat.reduceLeDiff, true_and, Option.toList_some, Option.toList_none, List.cons_append, List.nil_append, c.g19]
      exact hQ
    rw [if_neg w3] at hQ
    by_cases w4 : w = 4
    · subst w4
      simp only [u_145_63, u_145_125, u_145_125n, u_145_126, u_145_129, u_145_64_4, pm_O_some, pm_w_nil, pm_w_i, pm_w_l, pm_w_r, pm_w_n, pm_c_n, pm_c_i, pm_c_l, pm_c_r, pm_c_u, Nat.reduceAdd, Nat.reduceLeDiff, true_and, Option.toList_some, Option.toList_none, List.cons_append, List.nil_append, c.g21]
      exact hQ
    rw [if_neg w4] at hQ
    by_cases w5 : w = 5
    · subst w5
      simp only [u_145_63, u_145_130, u_145_131, u_145_64_5, pm_O_some, pm_w_nil, pm_w_i, pm_w_l, pm_w_r, pm_w_n, pm_c_n, pm_c_i, pm_c_l, pm_c_r, pm_c_u, Nat.reduceAdd, Nat.reduceLeDiff, true_and, Option.toList_some, Option.toList_none, List.cons_append, List.nil_append]
      exact hQ
    rw [if_neg w5] at hQ
    by_cases w6 : w = 6
    · subst w6
      simp only [u_145_63, u_145_132, u_145_132n, u_145_133, u_145_136, u_145_64_6, pm_O_some, pm_w_nil, pm_w_i, pm_w_l, pm_w_r, pm_w_n, pm_c_n, pm_c_i, pm_c_l, pm_c_r, pm_c_u, Nat.reduceAdd, Nat.reduceLeDiff, true_and, Option.toList_some, Option.toList_none, List.cons_append, List.nil_append, c.g7]
      exact hQ
    rw [if_neg w6] at hQ
    have hx : w.toInt < 0 ∨ 6 < w.toInt := by
      rw [← Int32.toInt_inj] at w0 w1 w2 w3 w4 w5 w6
      change ¬ w.toInt = 0 at w0
      change ¬ w.toInt = 1 at w1
      change ¬ w.toInt = 2 at w2
      change ¬ w.toInt = 3 at w3
      change ¬ w.toInt = 4 at w4
      change ¬ w.toInt = 5 at w5
      change ¬ w.toInt = 6 at w6
      omega
    simp only [u_145_63, u_145_137, u_145_138, u_145_64_d hx, pm_O_some, pm_w_nil, pm_w_i, pm_w_l, pm_w_r, pm_w_n, pm_c_n, pm_c_i, pm_c_l, pm_c_r, pm_c_u, Nat.reduceAdd, Nat.reduceLeDiff, true_and, Option.toList_some, Option.toList_none, List.cons_append, List.nil_append]
    exact hQ
  have loop2 : ∀ d k, k + d = nr → PW B X 145 38 [some (.ref m), some (.int w), some (.int (nI (hcn bs n))), some (.int (nI (su sz k))), some (.int (nI k))] [] h Q := by
    intro d
    induction d with
    | zero =>
      intro k hk
      obtain rfl : k = nr := by omega
      have e1 : nI k ≤ nI k := nI_le (Nat.le_refl _) (by omega)
      simp only [u_145_38, u_145_40, u_145_40n, u_145_41, u_145_44, pm_O_some, pm_w_nil, pm_w_i, pm_w_l, pm_w_r, pm_w_n, pm_c_n, pm_c_i, pm_c_l, pm_c_r, pm_c_u, Nat.reduceAdd, Nat.reduceLeDiff, true_and, Option.toList_some, Option.toList_none, List.cons_append, List.nil_append, c.g10, if_pos e1]
      exact fin
    | succ d ih =>
      intro k hk
      have e1 : ¬ nI nr ≤ nI k := nI_ge (by omega) (by omega)
      rw [u_145_38]
      simp only [u_145_40, u_145_40n, u_145_41, u_145_44, u_145_47, u_145_48, u_145_48n, u_145_49, u_145_52, u_145_54, u_145_55, u_145_56, u_145_57, u_145_60, pm_O_some, pm_w_nil, pm_w_i, pm_w_l, pm_w_r, pm_w_n, pm_c_n, pm_c_i, pm_c_l, pm_c_r, pm_c_u, Nat.reduceAdd, Nat.reduceLeDiff, true_and, Option.toList_some, Option.toList_none, List.cons_append, List.nil_append, c.g10, if_neg e1, c.g11, d1, ld_i (t := 0) (ix_8 (show k < 8 by omega)) rfl, nI_clamp (show k < 2 ^ 31 by omega), (d3 k (by omega)).1, nI_add, nI_1]
      exact ih (k + 1) (by omega)
  have loop1 : ∀ d k, k + d = 20 → PW B X 145 4 [some (.ref m), some (.int w), some (.int (nI (hq fh k))), some (.int (nI k)), none] [] h Q := by
    intro d
    induction d with
    | zero =>
      intro k hk
      obtain rfl : k = 20 := by omega
      have e1 : (20 : Int32) ≤ nI 20 := by decide
      simp only [u_145_4, u_145_5, u_145_7, u_145_33, u_145_34, u_145_35, u_145_36, pm_O_some, pm_w_nil, pm_w_i, pm_w_l, pm_w_r, pm_w_n, pm_c_n, pm_c_i, pm_c_l, pm_c_r, pm_c_u, Nat.reduceAdd, Nat.reduceLeDiff, true_and, Option.toList_some, Option.toList_none, List.cons_append, List.nil_append, if_pos e1, hh]
      exact loop2 nr 0 (by omega)
    | succ d ih =>
      intro k hk
      have e1 : ¬ (20 : Int32) ≤ nI k := nI_ge (b := 20) (by omega) (by decide)
      have := ih (k + 1) (by omega)
      rw [hq] at this
      rw [u_145_4]
      by_cases cz : fh k = 0
      · rw [if_pos cz] at this
        simp only [u_145_5, u_145_7, u_145_10, u_145_11, u_145_11n, u_145_12, u_145_15, u_145_16, u_145_17, u_145_20, u_145_21, u_145_24, u_145_25, u_145_26, u_145_27, u_145_30, pm_O_some, pm_w_nil, pm_w_i, pm_w_l, pm_w_r, pm_w_n, pm_c_n, pm_c_i, pm_c_l, pm_c_r, pm_c_u, Nat.reduceAdd, Nat.reduceLeDiff, true_and, Option.toList_some, Option.toList_none, List.cons_append, List.nil_append, if_neg e1, c.g3, b1, ld_i (t := 3) (ix_20 (show k < 20 by omega)) rfl, nI_clamp (show k < 2 ^ 31 by omega), cz, if_true, Int32.add_zero, nI_1]
        exact this
      · rw [if_neg cz] at this
        simp only [u_145_5, u_145_7, u_145_10, u_145_11, u_145_11n, u_145_12, u_145_15, u_145_16, u_145_17, u_145_20, u_145_21, u_145_24, u_145_25, u_145_26, u_145_27, u_145_30, pm_O_some, pm_w_nil, pm_w_i, pm_w_l, pm_w_r, pm_w_n, pm_c_n, pm_c_i, pm_c_l, pm_c_r, pm_c_u, Nat.reduceAdd, Nat.reduceLeDiff, true_and, Option.toList_some, Option.toList_none, List.cons_append, List.nil_append, if_neg e1, c.g3, b1, ld_i (t := 3) (ix_20 (show k < 20 by omega)) rfl, nI_clamp (show k < 2 ^ 31 by omega), cz, if_false, nI_1]
        exact this
  simp only [u_145_0, u_145_1, u_145_2, u_145_3, pm_O_some, pm_w_nil, pm_w_i, pm_w_l, pm_w_r, pm_w_n, pm_c_n, pm_c_i, pm_c_l, pm_c_r, pm_c_u, Nat.reduceAdd, Nat.reduceLeDiff, true_and, Option.toList_some, Option.toList_none, List.cons_append, List.nil_append]
  exact loop1 20 0 (by omega)
end RS2

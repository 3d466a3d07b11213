/-! THE REFERENCE'S PARSER: skip, look, mark, number. -/
def Frz (B : Nat) (h h' : pm_H) (m : Nat) : Prop := h'.length = h.length ∧ pm_sl h' = pm_sl h ∧ ∀ q, ¬ q = m → ¬ (m + 9 ≤ q ∧ q < m + 11) → pm_at B h' q = pm_at B h q
/-- the parser's cells: place p, wrong w, r drafts -/
def PS (B : Nat) (h : pm_H) (m ln : Nat) (tx : Nat → Nat) (x0 x10 x19 x21 x24 x25 x31 x32 : Int32) (p : Nat) (w : Int32) (r : Nat) (fd fr : Nat → Int32) : Prop := MC B h m x0 (nI ln) (nI p) w x10 (nI r) x19 x21 x24 x25 x31 x32 ∧ (∃ ft, pm_at B h (m + 6) = some (.inl (0, 200, .inl ft)) ∧ ∀ i, i < ln → ft i = nI (tx i)) ∧ (∃ f, pm_at B h (m + 7) = some (.inl (0, 8, .inl f))) ∧ (∃ f, pm_at B h (m + 8) = some (.inl (0, 192, .inl f))) ∧ pm_at B h (m + 9) = some (.inl (0, 8, .inl fd)) ∧ pm_at B h (m + 10) = some (.inl (0, 192, .inl fr)) ∧ p ≤ ln ∧ ln ≤ 200 ∧ ∀ i, i < ln → 32 ≤ tx i ∧ tx i ≤ 126
section PSS
variable {B : Nat} {X : pm_X} {h h' h2 : pm_H} {Q : Option Value → pm_H → Prop} {m ln p p2 r k d : Nat} {tx : Nat → Nat} {x0 x10 x19 x21 x24 x25 x31 x32 w w2 v : Int32} {fd fr fd2 fr2 : Nat → Int32}
theorem Frz.rfl' : Frz B h h m := ⟨rfl, rfl, fun _ _ _ => rfl⟩
theorem Frz.trans (f1 : Frz B h h' m) (f2 : Frz B h' h2 m) : Frz B h h2 m := ⟨f2.1.trans f1.1, f2.2.1.trans f1.2.1, fun q a b => (f2.2.2 q a b).trans (f1.2.2 q a b)⟩
theorem Frm.zo (f1 : Frm B h h' m (m + 1)) : Frz B h h' m := ⟨f1.1, f1.2.1, fun q a b => f1.2.2 q (by omega)⟩
theorem Frm.zr (f1 : Frm B h h' (m + 9) (m + 11)) : Frz B h h' m := ⟨f1.1, f1.2.1, fun q a b => f1.2.2 q (by omega)⟩
theorem PS.io (n1 : PS B h m ln tx x0 x10 x19 x21 x24 x25 x31 x32 p w r fd fr) : pm_io B h m 10 = true := n1.1.io
/-- only the object's cell has changed -/
theorem PS.obj (n1 : PS B h m ln tx x0 x10 x19 x21 x24 x25 x31 x32 p w r fd fr) (F : Frm B h h' m (m + 1)) {y0 y10 y19 y21 y24 y25 y31 y32 : Int32} {r2 : Nat} (c : MC B h' m y0 (nI ln) (nI p2) w2 y10 (nI r2) y19 y21 y24 y25 y31 y32) (hp : p2 ≤ ln) : PS B h' m ln tx y0 y10 y19 y21 y24 y25 y31 y32 p2 w2 r2 fd fr := by
  obtain ⟨_, ⟨ft, b1, b2⟩, ⟨f1, b3⟩, ⟨f2, b4⟩, b5, b6, b7, b8, b9⟩ := n1
  exact ⟨c, ⟨ft, (F.2.2 _ (by omega)).trans b1, b2⟩, ⟨f1, (F.2.2 _ (by omega)).trans b3⟩, ⟨f2, (F.2.2 _ (by omega)).trans b4⟩, (F.2.2 _ (by omega)).trans b5, (F.2.2 _ (by omega)).trans b6, hp, b8, b9⟩
theorem PS.put9 (n1 : PS B h m ln tx x0 x10 x19 x21 x24 x25 x31 x32 p w r fd fr) (g : Nat → Int32) : PS B (pm_set B h (m + 9) (.inl (0, 8, .inl g))) m ln tx x0 x10 x19 x21 x24 x25 x31 x32 p w r g fr ∧ Frz B h (pm_set B h (m + 9) (.inl (0, 8, .inl g))) m := by
  obtain ⟨c, ⟨ft, b1, b2⟩, ⟨f1, b3⟩, ⟨f2, b4⟩, b5, b6, b7, b8, b9⟩ := n1
  have F := Frm.set (e := .inl (0, 8, .inl g)) b5 rfl
  exact ⟨⟨c.frm F (by omega), ⟨ft, (F.2.2 _ (by omega)).trans b1, b2⟩, ⟨f1, (F.2.2 _ (by omega)).trans b3⟩, ⟨f2, (F.2.2 _ (by omega)).trans b4⟩, pm_at_self (pm_v_at b5), (F.2.2 _ (by omega)).trans b6, b7, b8, b9⟩, (F.mono (by omega) (by omega) : Frm B h _ (m + 9) (m + 11)).zr⟩
theorem PS.put10 (n1 : PS B h m ln tx x0 x10 x19 x21 x24 x25 x31 x32 p w r fd fr) (g : Nat → Int32) : PS B (pm_set B h (m + 10) (.inl (0, 192, .inl g))) m ln tx x0 x10 x19 x21 x24 x25 x31 x32 p w r fd g ∧ Frz B h (pm_set B h (m + 10) (.inl (0, 192, .inl g))) m := by
  obtain ⟨c, ⟨ft, b1, b2⟩, ⟨f1, b3⟩, ⟨f2, b4⟩, b5, b6, b7, b8, b9⟩ := n1
  have F := Frm.set (e := .inl (0, 192, .inl g)) b6 rfl
  exact ⟨⟨c.frm F (by omega), ⟨ft, (F.2.2 _ (by omega)).trans b1, b2⟩, ⟨f1, (F.2.2 _ (by omega)).trans b3⟩, ⟨f2, (F.2.2 _ (by omega)).trans b4⟩, (F.2.2 _ (by omega)).trans b5, pm_at_self (pm_v_at b6), b7, b8, b9⟩, (F.mono (by omega) (by omega) : Frm B h _ (m + 9) (m + 11)).zr⟩
theorem p_skip (n1 : PS B h m ln tx x0 x10 x19 x21 x24 x25 x31 x32 p w r fd fr) (hQ : ∀ h', PS B h' m ln tx x0 x10 x19 x21 x24 x25 x31 x32 (sk tx ln p) w r fd fr → Frz B h h' m → Q none h') : PW B X 101 0 [some (.ref m)] [] h Q := by
  have loop : ∀ d p hc, p + d = ln → sk tx ln p = sk tx ln p → PS B hc m ln tx x0 x10 x19 x21 x24 x25 x31 x32 p w r fd fr → Frz B h hc m → (∀ h', PS B h' m ln tx x0 x10 x19 x21 x24 x25 x31 x32 (sk tx ln p) w r fd fr → Frz B h h' m → Q none h') → PW B X 101 0 [some (.ref m)] [] hc Q := by
    intro d
    induction d with
    | zero =>
      intro p hc hp _ m1 F hQ
      have b8 := m1.2.2.2.2.2.2.2.1
      obtain rfl : p = ln := by omega
      have e1 : nI p ≤ nI p := nI_le (Nat.le_refl _) (by omega)
      simp only [u_101_0, u_101_0n, u_101_1, u_101_4, u_101_4n, u_101_5, u_101_8, u_101_38, pm_O_some, pm_w_nil, pm_w_i, pm_w_l, pm_w_r, pm_w_n, pm_c_n, pm_c_i, pm_c_l, pm_c_r, pm_c_u, Nat.reduceAdd, Nat.reduceLeDiff, true_and, Option.toList_some, Option.toList_none, List.cons_append, List.nil_append, m1.1.g7, m1.1.g8, if_pos e1]
      rw [sk_f (by omega)] at hQ
      exact hQ hc m1 F
    | succ d ih =>
      intro p hc hp _ m1 F hQ
      obtain ⟨c, ⟨ft, b1, b2⟩, b3, b4, b5, b6, b7, b8, b9⟩ := id m1
      have e1 : ¬ nI ln ≤ nI p := nI_ge (by omega) (by omega)
      have hb := b9 p (by omega)
      by_cases c2 : tx p = 32
      · have e2 : ¬ ¬ ft p = 32 := fun z => z (by rw [b2 p (by omega), c2]; rfl)
        rw [u_101_0]
        simp only [u_101_1, u_101_4, u_101_4n, u_101_5, u_101_8, u_101_11, u_101_11n, u_101_12, u_101_15, u_101_15n, u_101_16, u_101_19, u_101_20, u_101_22, u_101_25, u_101_25n, u_101_26, u_101_26i, u_101_27, u_101_30, u_101_31, u_101_32, pm_O_some, pm_w_nil, pm_w_i, pm_w_l, pm_w_r, pm_w_n, pm_c_n, pm_c_i, pm_c_l, pm_c_r, pm_c_u, Nat.reduceAdd, Nat.reduceLeDiff, true_and, Option.toList_some, Option.toList_none, List.cons_append, List.nil_append, c.g6, c.g7, c.g8, if_neg e1, b1, ld_i (t := 0) (ix_200 (show p < 200 by omega)) rfl, nI_clamp (show p < 2 ^ 31 by omega), if_neg e2, nI_1, c.p8]
        obtain ⟨c3, F3⟩ := c.s8 (v := nI (p + 1))
        simp only [u_101_35, pm_O_some, pm_w_nil, pm_w_i, pm_w_l, pm_w_r, pm_w_n, pm_c_n, pm_c_i, pm_c_l, pm_c_r, pm_c_u, Nat.reduceAdd, Nat.reduceLeDiff, true_and, Option.toList_some, Option.toList_none, List.cons_append, List.nil_append]
        rw [sk_t (by omega) c2] at hQ
        exact ih (p + 1) _ (by omega) rfl (m1.obj F3 c3 (by omega)) (F.trans F3.zo) hQ
      · have e2 : ¬ ft p = 32 := fun z => c2 (by rw [b2 p (by omega)] at z; exact (nI_eq (b := 32) (by omega) (by decide)).mp z)
        simp only [u_101_0, u_101_0n, u_101_1, u_101_4, u_101_4n, u_101_5, u_101_8, u_101_11, u_101_11n, u_101_12, u_101_15, u_101_15n, u_101_16, u_101_19, u_101_20, u_101_22, u_101_38, pm_O_some, pm_w_nil, pm_w_i, pm_w_l, pm_w_r, pm_w_n, pm_c_n, pm_c_i, pm_c_l, pm_c_r, pm_c_u, Nat.reduceAdd, Nat.reduceLeDiff, true_and, Option.toList_some, Option.toList_none, List.cons_append, List.nil_append, c.g6, c.g7, c.g8, if_neg e1, b1, ld_i (t := 0) (ix_200 (show p < 200 by omega)) rfl, nI_clamp (show p < 2 ^ 31 by omega), if_pos e2]
        rw [sk_f (by omega)] at hQ
        exact hQ hc m1 F
  have hp := n1.2.2.2.2.2.2.1
  exact loop (ln - p) p h (by omega) rfl n1 Frz.rfl' hQ
theorem p_look (n1 : PS B h m ln tx x0 x10 x19 x21 x24 x25 x31 x32 p w r fd fr) : PW B X 104 0 [some (.ref m)] [] h Q ↔ Q (some (.int (nI (lk tx ln p)))) h := by
  obtain ⟨c, ⟨ft, b1, b2⟩, b3, b4, b5, b6, b7, b8, b9⟩ := id n1
  unfold lk
  by_cases c1 : p < ln
  · have e1 : ¬ nI ln ≤ nI p := nI_ge (by omega) (by omega)
    simp only [u_104_0, u_104_0n, u_104_1, u_104_4, u_104_4n, u_104_5, u_104_8, u_104_11, u_104_11n, u_104_12, u_104_15, u_104_15n, u_104_16, u_104_19, u_104_20, u_104_23, u_104_24, pm_O_some, pm_w_nil, pm_w_i, pm_w_l, pm_w_r, pm_w_n, pm_c_n, pm_c_i, pm_c_l, pm_c_r, pm_c_u, Nat.reduceAdd, Nat.reduceLeDiff, true_and, Option.toList_some, Option.toList_none, List.cons_append, List.nil_append, c.g6, c.g7, c.g8, if_neg e1, b1, ld_i (t := 0) (ix_200 (show p < 200 by omega)) rfl, nI_clamp (show p < 2 ^ 31 by omega), b2 p c1, if_pos c1]
  · have e1 : nI ln ≤ nI p := nI_le (by omega) (by omega)
    simp only [u_104_0, u_104_0n, u_104_1, u_104_4, u_104_4n, u_104_5, u_104_8, u_104_11, u_104_11n, u_104_12, u_104_15, u_104_15n, u_104_16, u_104_19, u_104_20, u_104_23, u_104_24, pm_O_some, pm_w_nil, pm_w_i, pm_w_l, pm_w_r, pm_w_n, pm_c_n, pm_c_i, pm_c_l, pm_c_r, pm_c_u, Nat.reduceAdd, Nat.reduceLeDiff, true_and, Option.toList_some, Option.toList_none, List.cons_append, List.nil_append, c.g7, c.g8, if_pos e1, if_neg c1]
    exact Iff.rfl
theorem p_mark {k : Nat} (n1 : PS B h m ln tx x0 x10 x19 x21 x24 x25 x31 x32 p w r fd fr) (hQ : ∀ h', PS B h' m ln tx x0 x10 x19 x21 x24 x25 x31 x32 p (if 0 ≤ w then w else nI k) r fd fr → Frz B h h' m → Q none h') : PW B X 102 0 [some (.ref m), some (.int (nI k))] [] h Q := by
  have c := n1.1
  have hp := n1.2.2.2.2.2.2.1
  by_cases c1 : 0 ≤ w
  · rw [if_pos c1] at hQ
    simp only [u_102_0, u_102_0n, u_102_1, u_102_1n, u_102_2, u_102_5, u_102_8, u_102_9, u_102_12, u_102_12n, u_102_13, u_102_16, u_102_19, pm_O_some, pm_w_nil, pm_w_i, pm_w_l, pm_w_r, pm_w_n, pm_c_n, pm_c_i, pm_c_l, pm_c_r, pm_c_u, Nat.reduceAdd, Nat.reduceLeDiff, true_and, Option.toList_some, Option.toList_none, List.cons_append, List.nil_append, c.g9, if_pos c1, c.p9]
    obtain ⟨c3, F3⟩ := c.s9 (v := w)
    exact hQ _ (n1.obj F3 c3 hp) F3.zo
  · rw [if_neg c1] at hQ
    simp only [u_102_0, u_102_0n, u_102_1, u_102_1n, u_102_2, u_102_5, u_102_8, u_102_9, u_102_12, u_102_12n, u_102_13, u_102_16, u_102_19, pm_O_some, pm_w_nil, pm_w_i, pm_w_l, pm_w_r, pm_w_n, pm_c_n, pm_c_i, pm_c_l, pm_c_r, pm_c_u, Nat.reduceAdd, Nat.reduceLeDiff, true_and, Option.toList_some, Option.toList_none, List.cons_append, List.nil_append, c.g9, if_neg c1, c.p9]
    obtain ⟨c3, F3⟩ := c.s9 (v := nI k)
    exact hQ _ (n1.obj F3 c3 hp) F3.zo
theorem p_isDigit {k : Nat} (hk : k < 2 ^ 31) : PW B X 105 0 [some (.int (nI k))] [] h Q ↔ Q (some (.int (if 48 ≤ k ∧ k ≤ 57 then 1 else 0))) h := by
  have e1 : (nI k < 48) ↔ k < 48 := by
    rw [i_lt, nI_toInt hk]
    show (k : Int) < 48 ↔ _
    omega
  have e2 : ((57 : Int32) < nI k) ↔ 57 < k := by
    rw [i_lt, nI_toInt hk]
    show 57 < (k : Int) ↔ _
    omega
  by_cases c1 : k < 48
  · simp only [u_105_0, u_105_1, u_105_3, u_105_6, u_105_7, u_105_9, u_105_12, u_105_13, u_105_16, u_105_17, u_105_17_0, u_105_17_1, pm_O_some, pm_w_nil, pm_w_i, pm_w_l, pm_w_r, pm_w_n, pm_c_n, pm_c_i, pm_c_l, pm_c_r, pm_c_u, Nat.reduceAdd, Nat.reduceLeDiff, true_and, Option.toList_some, Option.toList_none, List.cons_append, List.nil_append, if_pos (e1.mpr c1), if_neg (show ¬ (48 ≤ k ∧ k ≤ 57) by omega)]
  · by_cases c2 : 57 < k
    · simp only [u_105_0, u_105_1, u_105_3, u_105_6, u_105_7, u_105_9, u_105_12, u_105_13, u_105_16, u_105_17, u_105_17_0, u_105_17_1, pm_O_some, pm_w_nil, pm_w_i, pm_w_l, pm_w_r, pm_w_n, pm_c_n, pm_c_i, pm_c_l, pm_c_r, pm_c_u, Nat.reduceAdd, Nat.reduceLeDiff, true_and, Option.toList_some, Option.toList_none, List.cons_append, List.nil_append, if_neg (mt e1.mp c1), if_pos (e2.mpr c2), if_neg (show ¬ (48 ≤ k ∧ k ≤ 57) by omega)]
    · simp only [u_105_0, u_105_1, u_105_3, u_105_6, u_105_7, u_105_9, u_105_12, u_105_13, u_105_16, u_105_17, u_105_17_0, u_105_17_1, pm_O_some, pm_w_nil, pm_w_i, pm_w_l, pm_w_r, pm_w_n, pm_c_n, pm_c_i, pm_c_l, pm_c_r, pm_c_u, Nat.reduceAdd, Nat.reduceLeDiff, true_and, Option.toList_some, Option.toList_none, List.cons_append, List.nil_append, if_neg (mt e1.mp c1), if_neg (mt e2.mp c2), if_pos (show (48 ≤ k ∧ k ≤ 57) by omega)]
theorem p_number (n1 : PS B h m ln tx x0 x10 x19 x21 x24 x25 x31 x32 p w r fd fr) (hQ : ∀ h' v, PS B h' m ln tx x0 x10 x19 x21 x24 x25 x31 x32 (de tx ln p) (if nok3 tx ln p then w else if 0 ≤ w then w else nI p) r fd fr → (nok3 tx ln p → v = nI (vl tx p (de tx ln p - p))) → Frz B h h' m → Q (some (.int v)) h') : PW B X 106 0 [some (.ref m), none, none] [] h Q := by
  have hp0 := n1.2.2.2.2.2.2.1
  have fin : ∀ hc v, PS B hc m ln tx x0 x10 x19 x21 x24 x25 x31 x32 (de tx ln p) w r fd fr → (de tx ln p - p ≤ 3 → v = nI (vl tx p (de tx ln p - p))) → Frz B h hc m → PW B X 106 57 [some (.ref m), some (.int (nI p)), some (.int v)] [] hc Q := by
    intro hc v m1 hv F
    obtain ⟨c, ⟨ft, b1, b2⟩, b3, b4, b5, b6, b7, b8, b9⟩ := id m1
    obtain ⟨d1, d2, d3⟩ := de_b (tx := tx) (ln := ln) (p := p) hp0
    have bad : ¬ nok3 tx ln p → PW B X 106 86 [some (.ref m), some (.int (nI p)), some (.int v)] [] hc Q := by
      intro nk
      simp only [u_106_86, u_106_86n, u_106_87, u_106_88, pm_O_some, pm_w_nil, pm_w_i, pm_w_l, pm_w_r, pm_w_n, pm_c_n, pm_c_i, pm_c_l, pm_c_r, pm_c_u, Nat.reduceAdd, Nat.reduceLeDiff, true_and, Option.toList_some, Option.toList_none, List.cons_append, List.nil_append, m1.io]
      refine p_mark m1 (fun h2 m2 F2 => ?_)
      simp only [u_106_91, u_106_92, pm_O_some, pm_w_nil, pm_w_i, pm_w_l, pm_w_r, pm_w_n, pm_c_n, pm_c_i, pm_c_l, pm_c_r, pm_c_u, Nat.reduceAdd, Nat.reduceLeDiff, true_and, Option.toList_some, Option.toList_none, List.cons_append, List.nil_append]
      exact hQ h2 v (by rw [if_neg nk]; exact m2) (fun z => absurd z nk) (F.trans F2)
    have dT := nI_toInt (show de tx ln p < 2 ^ 31 by omega)
    have pT := nI_toInt (show p < 2 ^ 31 by omega)
    by_cases c1 : de tx ln p = p
    · have e1 : nI (de tx ln p) = nI p := by rw [c1]
      simp only [u_106_57, u_106_57n, u_106_58, u_106_61, u_106_62, pm_O_some, pm_w_nil, pm_w_i, pm_w_l, pm_w_r, pm_w_n, pm_c_n, pm_c_i, pm_c_l, pm_c_r, pm_c_u, Nat.reduceAdd, Nat.reduceLeDiff, true_and, Option.toList_some, Option.toList_none, List.cons_append, List.nil_append, c.g8, if_pos e1]
      exact bad (fun z => by have := z.1; omega)
    · have e1 : ¬ nI (de tx ln p) = nI p := fun z => c1 ((nI_eq (by omega) (by omega)).mp z)
      have e2 : ((3 : Int32) < nI (de tx ln p) - nI p) ↔ 3 < de tx ln p - p := by
        rw [i_lt, i_sub (by omega) (by omega), dT, pT]
        show (3 : Int) < _ ↔ _
        omega
      by_cases c2 : 3 < de tx ln p - p
      · simp only [u_106_57, u_106_57n, u_106_58, u_106_61, u_106_62, u_106_65, u_106_65n, u_106_66, u_106_69, u_106_70, u_106_71, u_106_72, pm_O_some, pm_w_nil, pm_w_i, pm_w_l, pm_w_r, pm_w_n, pm_c_n, pm_c_i, pm_c_l, pm_c_r, pm_c_u, Nat.reduceAdd, Nat.reduceLeDiff, true_and, Option.toList_some, Option.toList_none, List.cons_append, List.nil_append, c.g8, if_neg e1, if_pos (e2.mpr c2)]
        exact bad (fun z => by have := z.2.1; omega)
      · have hpl : p < ln := by omega
        have hb := b9 p hpl
        by_cases c3 : tx p = 48
        · have e3 : ¬ ¬ nI (tx p) = 48 := fun z => z (by rw [c3]; rfl)
          simp only [u_106_57, u_106_57n, u_106_58, u_106_61, u_106_62, u_106_65, u_106_65n, u_106_66, u_106_69, u_106_70, u_106_71, u_106_72, u_106_75, u_106_75n, u_106_76, u_106_79, u_106_80, u_106_81, u_106_83, pm_O_some, pm_w_nil, pm_w_i, pm_w_l, pm_w_r, pm_w_n, pm_c_n, pm_c_i, pm_c_l, pm_c_r, pm_c_u, Nat.reduceAdd, Nat.reduceLeDiff, true_and, Option.toList_some, Option.toList_none, List.cons_append, List.nil_append, c.g8, c.g6, if_neg e1, if_neg (mt e2.mp c2), b1, ld_i (t := 0) (ix_200 (show p < 200 by omega)) rfl, nI_clamp (show p < 2 ^ 31 by omega), b2 p hpl, if_neg e3]
          exact bad (fun z => z.2.2 c3)
        · have e3 : ¬ nI (tx p) = 48 := fun z => c3 ((nI_eq (b := 48) (by omega) (by decide)).mp z)
          simp only [u_106_57, u_106_57n, u_106_58, u_106_61, u_106_62, u_106_65, u_106_65n, u_106_66, u_106_69, u_106_70, u_106_71, u_106_72, u_106_75, u_106_75n, u_106_76, u_106_79, u_106_80, u_106_81, u_106_83, u_106_91, u_106_92, pm_O_some, pm_w_nil, pm_w_i, pm_w_l, pm_w_r, pm_w_n, pm_c_n, pm_c_i, pm_c_l, pm_c_r, pm_c_u, Nat.reduceAdd, Nat.reduceLeDiff, true_and, Option.toList_some, Option.toList_none, List.cons_append, List.nil_append, c.g8, c.g6, if_neg e1, if_neg (mt e2.mp c2), b1, ld_i (t := 0) (ix_200 (show p < 200 by omega)) rfl, nI_clamp (show p < 2 ^ 31 by omega), b2 p hpl, if_pos e3]
          have nk : nok3 tx ln p := ⟨by omega, by omega, c3⟩
          exact hQ hc v (by rw [if_pos nk]; exact m1) (fun _ => hv (by omega)) F
  have loop : ∀ d k hc v, p + k + d = ln → de tx ln (p + k) = de tx ln p → PS B hc m ln tx x0 x10 x19 x21 x24 x25 x31 x32 (p + k) w r fd fr → (k ≤ 3 → v = nI (vl tx p k)) → Frz B h hc m → PW B X 106 7 [some (.ref m), some (.int (nI p)), some (.int v)] [] hc Q := by
    intro d
    induction d with
    | zero =>
      intro k hc v hk hde m1 hv F
      have el : lk tx ln (p + k) = 0 := if_neg (by omega)
      have ed : de tx ln (p + k) = p + k := de_f (by omega)
      simp only [u_106_7, u_106_7n, u_106_8, u_106_11, u_106_14, pm_O_some, pm_w_nil, pm_w_i, pm_w_l, pm_w_r, pm_w_n, pm_c_n, pm_c_i, pm_c_l, pm_c_r, pm_c_u, Nat.reduceAdd, Nat.reduceLeDiff, true_and, Option.toList_some, Option.toList_none, List.cons_append, List.nil_append, m1.io, p_look m1, el, p_isDigit (show 0 < 2 ^ 31 by decide), one0, ite_not, if_neg (show ¬ (48 ≤ 0 ∧ 0 ≤ 57) by omega)]
      rw [← hde, ed] at fin
      refine fin hc v m1 (fun z => ?_) F
      rw [Nat.add_sub_cancel_left] at z ⊢
      exact hv z
    | succ d ih =>
      intro k hc v hk hde m1 hv F
      have b9 := m1.2.2.2.2.2.2.2.2
      have hlt : p + k < ln := by omega
      have hb := b9 (p + k) hlt
      have el : lk tx ln (p + k) = tx (p + k) := if_pos hlt
      have b8 := m1.2.2.2.2.2.2.2.1
      by_cases cd : 48 ≤ tx (p + k) ∧ tx (p + k) ≤ 57
      · have ed := de_t hlt cd
        have c := m1.1
        have tT := nI_toInt (show p + k < 2 ^ 31 by omega)
        have pT := nI_toInt (show p < 2 ^ 31 by omega)
        have e4 : ((4 : Int32) ≤ nI (p + k) - nI p) ↔ 4 ≤ k := by
          rw [i_le, i_sub (by omega) (by omega), tT, pT]
          show (4 : Int) ≤ _ ↔ _
          omega
        have nxt : ∀ v', (k + 1 ≤ 3 → v' = nI (vl tx p (k + 1))) → PW B X 106 43 [some (.ref m), some (.int (nI p)), some (.int v)] [.int v'] hc Q := by
          intro v' hv'
          simp only [u_106_43, u_106_44, u_106_44n, u_106_45, u_106_45i, u_106_46, u_106_49, u_106_50, u_106_51, pm_O_some, pm_w_nil, pm_w_i, pm_w_l, pm_w_r, pm_w_n, pm_c_n, pm_c_i, pm_c_l, pm_c_r, pm_c_u, Nat.reduceAdd, Nat.reduceLeDiff, true_and, Option.toList_some, Option.toList_none, List.cons_append, List.nil_append, c.g8, nI_1, c.p8]
          obtain ⟨c3, F3⟩ := c.s8 (v := nI (p + k + 1))
          simp only [u_106_54, pm_O_some, pm_w_nil, pm_w_i, pm_w_l, pm_w_r, pm_w_n, pm_c_n, pm_c_i, pm_c_l, pm_c_r, pm_c_u, Nat.reduceAdd, Nat.reduceLeDiff, true_and, Option.toList_some, Option.toList_none, List.cons_append, List.nil_append]
          exact ih (k + 1) _ v' (by omega) (by rw [← hde, ed]; rfl) (m1.obj F3 c3 (by omega)) hv' (F.trans F3.zo)
        rw [u_106_7]
        by_cases c4 : 4 ≤ k
        · simp only [u_106_8, u_106_11, u_106_14, u_106_17, u_106_17n, u_106_18, u_106_21, u_106_22, u_106_23, u_106_24, u_106_42, pm_O_some, pm_w_nil, pm_w_i, pm_w_l, pm_w_r, pm_w_n, pm_c_n, pm_c_i, pm_c_l, pm_c_r, pm_c_u, Nat.reduceAdd, Nat.reduceLeDiff, true_and, Option.toList_some, Option.toList_none, List.cons_append, List.nil_append, m1.io, p_look m1, el, p_isDigit (show tx (p + k) < 2 ^ 31 by omega), one0, ite_not, if_pos cd, c.g8, if_pos (e4.mpr c4)]
          exact nxt v (fun z => by omega)
        · simp only [u_106_8, u_106_11, u_106_14, u_106_17, u_106_17n, u_106_18, u_106_21, u_106_22, u_106_23, u_106_24, u_106_27, u_106_29, u_106_30, u_106_31, u_106_31n, u_106_32, u_106_35, u_106_36, u_106_38, u_106_39, pm_O_some, pm_w_nil, pm_w_i, pm_w_l, pm_w_r, pm_w_n, pm_c_n, pm_c_i, pm_c_l, pm_c_r, pm_c_u, Nat.reduceAdd, Nat.reduceLeDiff, true_and, Option.toList_some, Option.toList_none, List.cons_append, List.nil_append, m1.io, p_look m1, el, p_isDigit (show tx (p + k) < 2 ^ 31 by omega), one0, ite_not, if_pos cd, c.g8, if_neg (mt e4.mp c4)]
          refine nxt _ (fun z => ?_)
          rw [hv (by omega), show (10 : Int32) = nI 10 from rfl, nI_mul, nI_add, show (48 : Int32) = nI 48 from rfl]
          have : nI (10 * vl tx p k + tx (p + k)) - nI 48 = nI (10 * vl tx p k + tx (p + k) - 48) := nI_m48 (c := 10 * vl tx p k + tx (p + k)) (by omega)
          rw [this, vl]
          congr 1
          omega
      · have ed : de tx ln (p + k) = p + k := de_f (fun z => cd z.2)
        simp only [u_106_7, u_106_7n, u_106_8, u_106_11, u_106_14, pm_O_some, pm_w_nil, pm_w_i, pm_w_l, pm_w_r, pm_w_n, pm_c_n, pm_c_i, pm_c_l, pm_c_r, pm_c_u, Nat.reduceAdd, Nat.reduceLeDiff, true_and, Option.toList_some, Option.toList_none, List.cons_append, List.nil_append, m1.io, p_look m1, el, p_isDigit (show tx (p + k) < 2 ^ 31 by omega), one0, ite_not, if_neg cd]
        rw [← hde, ed] at fin
        refine fin hc v m1 (fun z => ?_) F
        rw [Nat.add_sub_cancel_left] at z ⊢
        exact hv z
  simp only [u_106_0, u_106_0n, u_106_1, u_106_4, u_106_5, u_106_6, pm_O_some, pm_w_nil, pm_w_i, pm_w_l, pm_w_r, pm_w_n, pm_c_n, pm_c_i, pm_c_l, pm_c_r, pm_c_u, Nat.reduceAdd, Nat.reduceLeDiff, true_and, Option.toList_some, Option.toList_none, List.cons_append, List.nil_append, n1.1.g8]
  exact loop (ln - p) 0 h 0 (by omega) rfl n1 (fun _ => rfl) Frz.rfl'
end PSS

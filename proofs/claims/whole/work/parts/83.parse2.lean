/-! readNumber; the rule set's own methods. -/
theorem nI_m48 {c : Nat} (h : 48 ≤ c) : nI c - 48 = nI (c - 48) := by
  obtain ⟨d, rfl⟩ : ∃ d, c = d + 48 := ⟨c - 48, by omega⟩
  rw [← nI_add]
  show nI d + 48 - 48 = _
  rw [Int32.add_sub_cancel, Nat.add_sub_cancel]
theorem nI_m97 {c : Nat} (h : 97 ≤ c) : nI c - 97 = nI (c - 97) := by
  obtain ⟨d, rfl⟩ : ∃ d, c = d + 97 := ⟨c - 97, by omega⟩
  rw [← nI_add]
  show nI d + 97 - 97 = _
  rw [Int32.add_sub_cancel, Nat.add_sub_cancel]
theorem nI_x10 {a b : Nat} : nI a * 10 + nI b = nI (a * 10 + b) := by
  show nI a * nI 10 + nI b = _
  rw [nI_mul, nI_add]
theorem nI_x6 {a b : Nat} : nI a * 6 + nI b = nI (a * 6 + b) := by
  show nI a * nI 6 + nI b = _
  rw [nI_mul, nI_add]
section PC
variable {B : Nat} {X : pm_X} {h h' : pm_H} {Q : Option Value → pm_H → Prop} {lo hi ln p c r nr k s : Nat} {tx sz : Nat → Nat} {tm : Nat → Nat → Tm} {T : Tm}
theorem c_number (n1 : RdP B h ln tx p) (ht : nok3 tx ln p → ∀ h', RdP B h' ln tx (sk tx ln (de tx ln p)) → Frm B h h' (B + 3) (B + 4) → Q (some (.int (nI (vl tx p (de tx ln p - p))))) h') (hf : ¬ nok3 tx ln p → Q (some (.int 0)) h) :
    PW B X 31 0 [some (.ref (B + 3)), none, none, none, none] [] h Q := by
  obtain ⟨h1, h2, fT, h3, h4, h5⟩ := id n1
  have hde := de_b (tx := tx) h2
  have fin : ∀ d, p + d = de tx ln p → PW B X 31 68 [some (.ref (B + 3)), some (.int (nI p)), some (.int (nI (vl tx p (if d < 3 then d else 3)))), some (.int (nI d)), some (.int (nI (p + d)))] [] h Q := by
    intro d hd
    by_cases c1 : d = 0
    · have e1 : nI d = 0 := by rw [c1]; rfl
      simp only [u_31_68, u_31_69, u_31_86, u_31_87, pm_O_some, pm_w_nil, pm_w_i, pm_w_l, pm_w_r, pm_w_n, pm_c_n, pm_c_i, pm_c_l, pm_c_r, pm_c_u, Nat.reduceAdd, Nat.reduceLeDiff, true_and, Option.toList_some, Option.toList_none, List.cons_append, List.nil_append, if_pos e1]
      exact hf (fun c => by have := c.1; omega)
    · have e1 : ¬ nI d = 0 := nI_ne0 (by omega) (by omega)
      by_cases c2 : 3 < d
      · have e2 : (3 : Int32) < nI d := nI_lt (a := 3) c2 (by omega)
        simp only [u_31_68, u_31_69, u_31_72, u_31_73, u_31_74, u_31_86, u_31_87, pm_O_some, pm_w_nil, pm_w_i, pm_w_l, pm_w_r, pm_w_n, pm_c_n, pm_c_i, pm_c_l, pm_c_r, pm_c_u, Nat.reduceAdd, Nat.reduceLeDiff, true_and, Option.toList_some, Option.toList_none, List.cons_append, List.nil_append, if_neg e1, if_pos e2]
        exact hf (fun c => by have := c.2.1; omega)
      · have e2 : ¬ (3 : Int32) < nI d := nI_nlt (b := d) (a := 3) (by omega) (by decide)
        have hpl : p < ln := by omega
        have hlk : lk tx ln p = tx p := if_pos hpl
        have ht2 := (h5 p hpl).2
        by_cases c3 : tx p = 48
        · have e3 : nI (tx p) = 48 := by rw [c3]; rfl
          simp only [u_31_68, u_31_69, u_31_72, u_31_73, u_31_74, u_31_77, u_31_77n, u_31_78, u_31_81, u_31_83, u_31_86, u_31_87, pm_O_some, pm_w_nil, pm_w_i, pm_w_l, pm_w_r, pm_w_n, pm_c_n, pm_c_i, pm_c_l, pm_c_r, pm_c_u, Nat.reduceAdd, Nat.reduceLeDiff, true_and, Option.toList_some, Option.toList_none, List.cons_append, List.nil_append, if_neg e1, if_neg e2, n1.io, s_here n1, hlk, e3, not_true, if_false]
          exact hf (fun c => c.2.2 c3)
        · have e3 : ¬ nI (tx p) = 48 := fun y => c3 ((nI_eq (b := 48) (by omega) (by decide)).mp y)
          obtain ⟨w1, w2⟩ := n1.put (q := p + d) (by omega)
          simp only [u_31_68, u_31_69, u_31_72, u_31_73, u_31_74, u_31_77, u_31_77n, u_31_78, u_31_81, u_31_83, u_31_86, u_31_87, u_31_88, u_31_88n, u_31_89, u_31_90, u_31_91, u_31_92, pm_O_some, pm_w_nil, pm_w_i, pm_w_l, pm_w_r, pm_w_n, pm_c_n, pm_c_i, pm_c_l, pm_c_r, pm_c_u, Nat.reduceAdd, Nat.reduceLeDiff, true_and, Option.toList_some, Option.toList_none, List.cons_append, List.nil_append, if_neg e1, if_neg e2, n1.io, s_here n1, hlk, e3, not_false_eq_true, if_true, h3, pf_2_2, nI_add]
          simp only [u_31_95, u_31_95n, u_31_96, pm_O_some, pm_w_nil, pm_w_i, pm_w_l, pm_w_r, pm_w_n, pm_c_n, pm_c_i, pm_c_l, pm_c_r, pm_c_u, Nat.reduceAdd, Nat.reduceLeDiff, true_and, Option.toList_some, Option.toList_none, List.cons_append, List.nil_append, w1.io]
          refine c_skip w1 (fun hA y1 y2 => ?_)
          simp only [u_31_99, u_31_100, pm_O_some, pm_w_nil, pm_w_i, pm_w_l, pm_w_r, pm_w_n, pm_c_n, pm_c_i, pm_c_l, pm_c_r, pm_c_u, Nat.reduceAdd, Nat.reduceLeDiff, true_and, Option.toList_some, Option.toList_none, List.cons_append, List.nil_append]
          have hv : (if d < 3 then d else 3) = de tx ln p - p := by split <;> omega
          rw [hd] at y1
          rw [hv]
          exact ht ⟨by omega, by omega, c3⟩ hA y1 (w2.trans y2)
  have loop : ∀ m d, p + d + m = ln → de tx ln (p + d) = de tx ln p → (∀ i, p ≤ i → i < p + d → 48 ≤ tx i ∧ tx i ≤ 57) → PW B X 31 12 [some (.ref (B + 3)), some (.int (nI p)), some (.int (nI (vl tx p (if d < 3 then d else 3)))), some (.int (nI d)), some (.int (nI (p + d)))] [] h Q := by
    intro m
    induction m with
    | zero =>
      intro d hd e1 e2
      have e3 : nI ln ≤ nI (p + d) := nI_le (by omega) (by omega)
      simp only [u_31_12, u_31_14, u_31_14n, u_31_15, u_31_18, pm_O_some, pm_w_nil, pm_w_i, pm_w_l, pm_w_r, pm_w_n, pm_c_n, pm_c_i, pm_c_l, pm_c_r, pm_c_u, Nat.reduceAdd, Nat.reduceLeDiff, true_and, Option.toList_some, Option.toList_none, List.cons_append, List.nil_append, h3, gf_2_1, if_pos e3]
      exact fin d (by rw [← e1, de_f (by omega)])
    | succ m ih =>
      intro d hd e1 e2
      have hq : p + d < ln := by omega
      have e3 : ¬ nI ln ≤ nI (p + d) := nI_ge hq (by omega)
      have t := h5 (p + d) hq
      by_cases c1 : 48 ≤ tx (p + d) ∧ tx (p + d) ≤ 57
      · have u1 := (w_dig t.2.2).mpr c1
        have nxt : vl tx p (if d + 1 < 3 then d + 1 else 3) = (if d < 3 then vl tx p d * 10 + (tx (p + d) - 48) else vl tx p (if d < 3 then d else 3)) := by
          by_cases z : d < 3
          · rw [if_pos z]
            by_cases z2 : d + 1 < 3
            · rw [if_pos z2, vl]
            · obtain rfl : d = 2 := by omega
              rw [if_neg z2, vl]
          · rw [if_neg z, if_neg z, if_neg (by omega)]
        have ih2 := ih (d + 1) (by omega) (by rw [← Nat.add_assoc, ← de_t hq c1]; exact e1) (fun i i1 i2 => by
          by_cases e : i = p + d
          · rw [e]; exact c1
          · exact e2 i i1 (by omega))
        rw [nxt] at ih2
        rw [u_31_12]
        simp only [u_31_14, u_31_14n, u_31_15, u_31_18, u_31_21, u_31_21n, u_31_22, u_31_25, u_31_27, u_31_28, u_31_30, u_31_32, u_31_35, pm_O_some, pm_w_nil, pm_w_i, pm_w_l, pm_w_r, pm_w_n, pm_c_n, pm_c_i, pm_c_l, pm_c_r, pm_c_u, Nat.reduceAdd, Nat.reduceLeDiff, true_and, Option.toList_some, Option.toList_none, List.cons_append, List.nil_append, h3, gf_2_0, gf_2_1, if_neg e3, h4, ld_i (t := 2) (pm_ix_of (show p + d < 200 by omega) (by decide)) rfl, nI_clamp (show p + d < 2 ^ 31 by omega), t.1, s_within, one0, ite_not, if_pos u1, i10, if_false]
        by_cases z : d < 3
        · have e4 : ¬ (3 : Int32) ≤ nI d := nI_ge (b := 3) z (by decide)
          rw [if_pos z] at ih2 ⊢
          simp only [u_31_38, u_31_39, u_31_40, u_31_43, u_31_44, u_31_46, u_31_47, u_31_47n, u_31_48, u_31_51, u_31_53, u_31_54, u_31_56, u_31_57, u_31_58, u_31_59, u_31_62, u_31_65, pm_O_some, pm_w_nil, pm_w_i, pm_w_l, pm_w_r, pm_w_n, pm_c_n, pm_c_i, pm_c_l, pm_c_r, pm_c_u, Nat.reduceAdd, Nat.reduceLeDiff, true_and, Option.toList_some, Option.toList_none, List.cons_append, List.nil_append, if_neg e4, h3, gf_2_0, h4, ld_i (t := 2) (pm_ix_of (show p + d < 200 by omega) (by decide)) rfl, nI_clamp (show p + d < 2 ^ 31 by omega), t.1, nI_m48 c1.1, nI_x10, nI_1]
          exact ih2
        · have e4 : (3 : Int32) ≤ nI d := nI_le (a := 3) (by omega) (by omega)
          rw [if_neg z] at ih2
          simp only [u_31_38, u_31_39, u_31_40, u_31_59, u_31_62, u_31_65, pm_O_some, pm_w_nil, pm_w_i, pm_w_l, pm_w_r, pm_w_n, pm_c_n, pm_c_i, pm_c_l, pm_c_r, pm_c_u, Nat.reduceAdd, Nat.reduceLeDiff, true_and, Option.toList_some, Option.toList_none, List.cons_append, List.nil_append, if_pos e4, nI_1]
          exact ih2
      · have u1 := mt (w_dig t.2.2).mp c1
        simp only [u_31_12, u_31_14, u_31_14n, u_31_15, u_31_18, u_31_21, u_31_21n, u_31_22, u_31_25, u_31_27, u_31_28, u_31_30, u_31_32, u_31_35, pm_O_some, pm_w_nil, pm_w_i, pm_w_l, pm_w_r, pm_w_n, pm_c_n, pm_c_i, pm_c_l, pm_c_r, pm_c_u, Nat.reduceAdd, Nat.reduceLeDiff, true_and, Option.toList_some, Option.toList_none, List.cons_append, List.nil_append, h3, gf_2_0, gf_2_1, if_neg e3, h4, ld_i (t := 2) (pm_ix_of (show p + d < 200 by omega) (by decide)) rfl, nI_clamp (show p + d < 2 ^ 31 by omega), t.1, s_within, one0, ite_not, if_neg u1, i00, if_true]
        exact fin d (by rw [← e1, de_f (fun c => c1 c.2)])
  simp only [u_31_0, u_31_0n, u_31_1, u_31_4, u_31_5, u_31_6, u_31_7, u_31_8, u_31_9, u_31_10, pm_O_some, pm_w_nil, pm_w_i, pm_w_l, pm_w_r, pm_w_n, pm_c_n, pm_c_i, pm_c_l, pm_c_r, pm_c_u, Nat.reduceAdd, Nat.reduceLeDiff, true_and, Option.toList_some, Option.toList_none, List.cons_append, List.nil_append, h3, gf_2_2]
  exact loop (ln - p) 0 (by omega) rfl (fun i i1 i2 => by omega)
end PC
/-- a rule set that is being filled -/
def RsP (B : Nat) (h : pm_H) (r nr : Nat) (sz : Nat → Nat) (tm : Nat → Nat → Tm) : Prop := ∃ fc fu fl fk fs, RsR B h r fc fu fl fk fs (nI nr) (nI (su sz nr)) ∧ nr ≤ 8 ∧ ∀ k, k < nr → fs k = nI (sz k) ∧ sz k ≤ 6 ∧ RuT fc fu fl fk k (sz k) (tm k)
theorem su_congr {f g : Nat → Nat} : ∀ {k : Nat}, (∀ i, i < k → f i = g i) → su f k = su g k
  | 0, _ => rfl
  | k + 1, h => by rw [su, su, su_congr (fun i hi => h i (by omega)), h k (by omega)]
section PD
variable {B : Nat} {X : pm_X} {h h' : pm_H} {Q : Option Value → pm_H → Prop} {lo hi ln p c r nr k s : Nat} {tx sz : Nat → Nat} {tm : Nat → Nat → Tm} {T : Tm}
theorem RsP.frm (n1 : RsP B h r nr sz tm) (f1 : Frm B h h' lo hi) (d : r + 6 ≤ lo ∨ hi ≤ r) : RsP B h' r nr sz tm := by
  obtain ⟨fc, fu, fl, fk, fs, h1, h2⟩ := n1
  exact ⟨fc, fu, fl, fk, fs, h1.frm f1 d, h2⟩
theorem RsP.io (n1 : RsP B h r nr sz tm) : pm_io B h r 3 = true := by
  obtain ⟨fc, fu, fl, fk, fs, h1, h2⟩ := n1
  exact pm_io_of h1.1
theorem RsX.io (n1 : RsX B h r) : pm_io B h r 3 = true := by
  obtain ⟨fc, fu, fl, fk, fs, x5, x6, h1⟩ := n1
  exact pm_io_of h1.1
theorem c_rclear (n1 : RsX B h r) (hQ : ∀ h', RsP B h' r 0 sz tm → Frm B h h' r (r + 6) → Q none h') : PW B X 22 0 [some (.ref r)] [] h Q := by
  obtain ⟨fc, fu, fl, fk, fs, x5, x6, h1, h2, h3, h4, h5, h6⟩ := n1
  have at1 := pm_v_at h1
  simp only [u_22_0, u_22_0n, u_22_1, u_22_2, u_22_5, u_22_5n, u_22_6, u_22_7, u_22_10, pm_O_some, pm_w_nil, pm_w_i, pm_w_l, pm_w_r, pm_w_n, pm_c_n, pm_c_i, pm_c_l, pm_c_r, pm_c_u, Nat.reduceAdd, Nat.reduceLeDiff, true_and, Option.toList_some, Option.toList_none, List.cons_append, List.nil_append, h1, pf_3_5, pf_3_6, pm_at_self at1, pm_v_set, pm_set_set]
  have F := Frm.set (e := .inr (3, [.ref (r + 1), .ref (r + 2), .ref (r + 3), .ref (r + 4), .ref (r + 5), .int 0, .int 0])) h1 rfl
  exact hQ _ ⟨fc, fu, fl, fk, fs, ⟨pm_at_self at1, (F.2.2 _ (by omega)).trans h2, (F.2.2 _ (by omega)).trans h3, (F.2.2 _ (by omega)).trans h4, (F.2.2 _ (by omega)).trans h5, (F.2.2 _ (by omega)).trans h6⟩, by omega, fun k hk => by omega⟩ (F.mono (by omega) (by omega))
theorem c_room (n1 : RsP B h r (k + 1) sz tm) : PW B X 26 0 [some (.ref r)] [] h Q ↔ Q (some (.int (if sz k < 6 then 1 else 0))) h := by
  obtain ⟨fc, fu, fl, fk, fs, ⟨h1, h2, h3, h4, h5, h6⟩, g1, g2⟩ := n1
  have t := g2 k (by omega)
  have e1 : ¬ nI (k + 1) ≤ 0 := nI_nle (by omega) (by omega)
  by_cases z : sz k < 6
  · have e2 : ¬ (6 : Int32) ≤ nI (sz k) := nI_ge (b := 6) z (by decide)
    simp only [u_26_0, u_26_0n, u_26_1, u_26_4, u_26_7, u_26_7n, u_26_8, u_26_11, u_26_11n, u_26_12, u_26_15, u_26_16, u_26_17, u_26_18, u_26_20, u_26_23, u_26_24, u_26_27, u_26_28, u_26_28_0, u_26_28_1, pm_O_some, pm_w_nil, pm_w_i, pm_w_l, pm_w_r, pm_w_n, pm_c_n, pm_c_i, pm_c_l, pm_c_r, pm_c_u, Nat.reduceAdd, Nat.reduceLeDiff, true_and, Option.toList_some, Option.toList_none, List.cons_append, List.nil_append, h1, gf_3_5, gf_3_4, if_neg e1, nI_pred, h6, ld_i (t := 0) (pm_ix_of (show k < 8 by omega) (by decide)) rfl, nI_clamp (show k < 2 ^ 31 by omega), t.1, if_neg e2, if_pos z]
  · have e2 : (6 : Int32) ≤ nI (sz k) := nI_le (a := 6) (by omega) (by omega)
    simp only [u_26_0, u_26_0n, u_26_1, u_26_4, u_26_7, u_26_7n, u_26_8, u_26_11, u_26_11n, u_26_12, u_26_15, u_26_16, u_26_17, u_26_18, u_26_20, u_26_23, u_26_24, u_26_27, u_26_28, u_26_28_0, u_26_28_1, pm_O_some, pm_w_nil, pm_w_i, pm_w_l, pm_w_r, pm_w_n, pm_c_n, pm_c_i, pm_c_l, pm_c_r, pm_c_u, Nat.reduceAdd, Nat.reduceLeDiff, true_and, Option.toList_some, Option.toList_none, List.cons_append, List.nil_append, h1, gf_3_5, gf_3_4, if_neg e1, nI_pred, h6, ld_i (t := 0) (pm_ix_of (show k < 8 by omega) (by decide)) rfl, nI_clamp (show k < 2 ^ 31 by omega), t.1, if_pos e2, if_neg z]
theorem c_begin (n1 : RsP B h r nr sz tm) (ht : nr < 8 → ∀ h', RsP B h' r (nr + 1) (ups sz nr 0) tm → Frm B h h' r (r + 6) → Q (some (.int 1)) h') (hf : ¬ nr < 8 → Q (some (.int 0)) h) : PW B X 24 0 [some (.ref r)] [] h Q := by
  obtain ⟨fc, fu, fl, fk, fs, ⟨h1, h2, h3, h4, h5, h6⟩, g1, g2⟩ := n1
  by_cases z : nr < 8
  · have e1 : nI nr < 8 := nI_lt (b := 8) z (by decide)
    simp only [u_24_0, u_24_0n, u_24_1, u_24_4, u_24_6, u_24_9, u_24_10, u_24_10_0, u_24_10_1, u_24_11, u_24_11n, u_24_12, u_24_15, u_24_15n, u_24_16, u_24_19, u_24_20, pm_O_some, pm_w_nil, pm_w_i, pm_w_l, pm_w_r, pm_w_n, pm_c_n, pm_c_i, pm_c_l, pm_c_r, pm_c_u, Nat.reduceAdd, Nat.reduceLeDiff, true_and, Option.toList_some, Option.toList_none, List.cons_append, List.nil_append, h1, gf_3_5, gf_3_4, if_pos e1, h6, st_i (t := 0) (pm_ix_of z (by decide)) rfl, nI_clamp (show nr < 2 ^ 31 by omega), ty_0]
    have F := Frm.set (e := .inl (0, 8, .inl (upd fs nr 0))) h6 rfl
    have t1 := (F.2.2 r (by omega)).trans h1
    have t6 := pm_at_self (e := .inl (0, 8, .inl (upd fs nr 0))) (pm_v_at h6)
    generalize pm_set B h (r + 5) (.inl (0, 8, .inl (upd fs nr 0))) = hA at F t1 t6 ⊢
    simp only [u_24_21, u_24_21n, u_24_22, u_24_22i, u_24_23, u_24_26, u_24_27, u_24_28, u_24_31, u_24_32, u_24_32_0, u_24_32_1, pm_O_some, pm_w_nil, pm_w_i, pm_w_l, pm_w_r, pm_w_n, pm_c_n, pm_c_i, pm_c_l, pm_c_r, pm_c_u, Nat.reduceAdd, Nat.reduceLeDiff, true_and, Option.toList_some, Option.toList_none, List.cons_append, List.nil_append, t1, gf_3_5, pf_3_5, nI_1]
    have G := Frm.set (e := .inr (3, [.ref (r + 1), .ref (r + 2), .ref (r + 3), .ref (r + 4), .ref (r + 5), .int (nI (nr + 1)), .int (nI (su sz nr))])) t1 rfl
    have FG : Frm B h (pm_set B hA r (.inr (3, [.ref (r + 1), .ref (r + 2), .ref (r + 3), .ref (r + 4), .ref (r + 5), .int (nI (nr + 1)), .int (nI (su sz nr))]))) r (r + 6) := (F.mono (by omega) (by omega)).trans (G.mono (by omega) (by omega))
    have esu : su (ups sz nr 0) (nr + 1) = su sz nr := by
      rw [su, ups_s, su_congr (g := sz) (fun i hi => ups_n (by omega))]
      rfl
    refine ht z _ ⟨fc, fu, fl, fk, upd fs nr 0, ⟨?_, ?_, ?_, ?_, ?_, (G.2.2 _ (by omega)).trans t6⟩, by omega, fun k hk => ?_⟩ FG
    · rw [esu]
      exact pm_at_self (pm_v_at t1)
    · exact (G.2.2 _ (by omega)).trans ((F.2.2 _ (by omega)).trans h2)
    · exact (G.2.2 _ (by omega)).trans ((F.2.2 _ (by omega)).trans h3)
    · exact (G.2.2 _ (by omega)).trans ((F.2.2 _ (by omega)).trans h4)
    · exact (G.2.2 _ (by omega)).trans ((F.2.2 _ (by omega)).trans h5)
    · by_cases e : k = nr
      · subst e
        rw [ups_s]
        exact ⟨if_pos rfl, by omega, fun i hi => by omega⟩
      · rw [ups_n e]
        have t := g2 k (by omega)
        exact ⟨(if_neg e).trans t.1, t.2⟩
  · have e1 : ¬ nI nr < 8 := nI_nlt (b := 8) (by omega) (by omega)
    simp only [u_24_0, u_24_0n, u_24_1, u_24_4, u_24_6, u_24_9, u_24_10, u_24_10_0, u_24_10_1, pm_O_some, pm_w_nil, pm_w_i, pm_w_l, pm_w_r, pm_w_n, pm_c_n, pm_c_i, pm_c_l, pm_c_r, pm_c_u, Nat.reduceAdd, Nat.reduceLeDiff, true_and, Option.toList_some, Option.toList_none, List.cons_append, List.nil_append, h1, gf_3_5, if_neg e1]
    exact hf z
theorem c_addT {cc uu ll kk : Nat} (n1 : RsP B h r (k + 1) sz tm) (hs : sz k < 6) (hT : tmok (cc, uu, ll, kk)) (hQ : ∀ h', RsP B h' r (k + 1) (ups sz k (sz k + 1)) (ups tm k (ups (tm k) (sz k) (cc, uu, ll, kk))) → Frm B h h' r (r + 6) → Q none h') :
    PW B X 32 0 [some (.ref r), some (.int (nI cc)), some (.int (nI uu)), some (.int (nI ll)), some (.int (nI kk)), none, none] [] h Q := by
  have n0 := n1
  obtain ⟨fc, fu, fl, fk, fs, ⟨h1, h2, h3, h4, h5, h6⟩, g1, g2⟩ := n1
  have t := g2 k (by omega)
  have hcc : cc < 126 := by have := hT.1; simp only at this; omega
  have K : pm_ix (nI k) 8 = true := pm_ix_of (show k < 8 by omega) (by decide)
  have D : pm_ix (nI (k * 6 + sz k)) 48 = true := pm_ix_of (show k * 6 + sz k < 48 by omega) (by decide)
  have kc := nI_clamp (show k < 2 ^ 31 by omega)
  have dc := nI_clamp (show k * 6 + sz k < 2 ^ 31 by omega)
  simp only [u_32_0, u_32_0n, u_32_1, u_32_4, u_32_7, u_32_8, u_32_8n, u_32_9, u_32_12, u_32_13, u_32_14, u_32_16, u_32_18, u_32_20, u_32_21, u_32_21n, u_32_22, u_32_25, u_32_27, u_32_28, u_32_29, u_32_31, u_32_31n, u_32_32, u_32_35, u_32_37, u_32_38, pm_O_some, pm_w_nil, pm_w_i, pm_w_l, pm_w_r, pm_w_n, pm_c_n, pm_c_i, pm_c_l, pm_c_r, pm_c_u, Nat.reduceAdd, Nat.reduceLeDiff, true_and, Option.toList_some, Option.toList_none, List.cons_append, List.nil_append, n0.io, c_room n0, if_pos hs, i10, not_false_eq_true, if_true, h1, gf_3_5, gf_3_4, gf_3_0, nI_pred, h6, ld_i (t := 0) K rfl, kc, t.1, nI_x6, h2, st_i (t := 2) D rfl, dc, ty_2 (x := nI cc) (by rw [nI_toInt (by omega)]; omega) (by rw [nI_toInt (by omega)]; omega)]
  have F1 := Frm.set (e := .inl (2, 48, .inl (upd fc (k * 6 + sz k) (nI cc)))) h2 rfl
  have a1 := (F1.2.2 r (by omega)).trans h1
  have a2 := pm_at_self (e := .inl (2, 48, .inl (upd fc (k * 6 + sz k) (nI cc)))) (pm_v_at h2)
  have a3 := (F1.2.2 (r + 2) (by omega)).trans h3
  have a4 := (F1.2.2 (r + 3) (by omega)).trans h4
  have a5 := (F1.2.2 (r + 4) (by omega)).trans h5
  have a6 := (F1.2.2 (r + 5) (by omega)).trans h6
  generalize pm_set B h (r + 1) (.inl (2, 48, .inl (upd fc (k * 6 + sz k) (nI cc)))) = hA at F1 a1 a2 a3 a4 a5 a6 ⊢
  simp only [u_32_39, u_32_39n, u_32_40, u_32_43, u_32_45, u_32_46, pm_O_some, pm_w_nil, pm_w_i, pm_w_l, pm_w_r, pm_w_n, pm_c_n, pm_c_i, pm_c_l, pm_c_r, pm_c_u, Nat.reduceAdd, Nat.reduceLeDiff, true_and, Option.toList_some, Option.toList_none, List.cons_append, List.nil_append, a1, gf_3_1, a3, st_i (t := 0) D rfl, dc, ty_0]
  have F2 := Frm.set (e := .inl (0, 48, .inl (upd fu (k * 6 + sz k) (nI uu)))) a3 rfl
  have b1 := (F2.2.2 r (by omega)).trans a1
  have b2 := (F2.2.2 (r + 1) (by omega)).trans a2
  have b3 := pm_at_self (e := .inl (0, 48, .inl (upd fu (k * 6 + sz k) (nI uu)))) (pm_v_at a3)
  have b4 := (F2.2.2 (r + 3) (by omega)).trans a4
  have b5 := (F2.2.2 (r + 4) (by omega)).trans a5
  have b6 := (F2.2.2 (r + 5) (by omega)).trans a6
  generalize pm_set B hA (r + 2) (.inl (0, 48, .inl (upd fu (k * 6 + sz k) (nI uu)))) = hB at F2 b1 b2 b3 b4 b5 b6 ⊢
  simp only [u_32_47, u_32_47n, u_32_48, u_32_51, u_32_53, u_32_54, pm_O_some, pm_w_nil, pm_w_i, pm_w_l, pm_w_r, pm_w_n, pm_c_n, pm_c_i, pm_c_l, pm_c_r, pm_c_u, Nat.reduceAdd, Nat.reduceLeDiff, true_and, Option.toList_some, Option.toList_none, List.cons_append, List.nil_append, b1, gf_3_2, b4, st_i (t := 0) D rfl, dc, ty_0]
  have F3 := Frm.set (e := .inl (0, 48, .inl (upd fl (k * 6 + sz k) (nI ll)))) b4 rfl
  have c1 := (F3.2.2 r (by omega)).trans b1
  have c2 := (F3.2.2 (r + 1) (by omega)).trans b2
  have c3 := (F3.2.2 (r + 2) (by omega)).trans b3
  have c4 := pm_at_self (e := .inl (0, 48, .inl (upd fl (k * 6 + sz k) (nI ll)))) (pm_v_at b4)
  have c5 := (F3.2.2 (r + 4) (by omega)).trans b5
  have c6 := (F3.2.2 (r + 5) (by omega)).trans b6
  generalize pm_set B hB (r + 3) (.inl (0, 48, .inl (upd fl (k * 6 + sz k) (nI ll)))) = hC at F3 c1 c2 c3 c4 c5 c6 ⊢
  simp only [u_32_55, u_32_55n, u_32_56, u_32_59, u_32_61, u_32_63, pm_O_some, pm_w_nil, pm_w_i, pm_w_l, pm_w_r, pm_w_n, pm_c_n, pm_c_i, pm_c_l, pm_c_r, pm_c_u, Nat.reduceAdd, Nat.reduceLeDiff, true_and, Option.toList_some, Option.toList_none, List.cons_append, List.nil_append, c1, gf_3_3, c5, st_i (t := 0) D rfl, dc, ty_0]
  have F4 := Frm.set (e := .inl (0, 48, .inl (upd fk (k * 6 + sz k) (nI kk)))) c5 rfl
  have d1 := (F4.2.2 r (by omega)).trans c1
  have d2 := (F4.2.2 (r + 1) (by omega)).trans c2
  have d3 := (F4.2.2 (r + 2) (by omega)).trans c3
  have d4 := (F4.2.2 (r + 3) (by omega)).trans c4
  have d5 := pm_at_self (e := .inl (0, 48, .inl (upd fk (k * 6 + sz k) (nI kk)))) (pm_v_at c5)
  have d6 := (F4.2.2 (r + 5) (by omega)).trans c6
  generalize pm_set B hC (r + 4) (.inl (0, 48, .inl (upd fk (k * 6 + sz k) (nI kk)))) = hD at F4 d1 d2 d3 d4 d5 d6 ⊢
  simp only [u_32_64, u_32_64n, u_32_65, u_32_68, u_32_70, u_32_71, u_32_72, u_32_73, u_32_74, pm_O_some, pm_w_nil, pm_w_i, pm_w_l, pm_w_r, pm_w_n, pm_c_n, pm_c_i, pm_c_l, pm_c_r, pm_c_u, Nat.reduceAdd, Nat.reduceLeDiff, true_and, Option.toList_some, Option.toList_none, List.cons_append, List.nil_append, d1, gf_3_4, d6, ld_i (t := 0) K rfl, st_i (t := 0) K rfl, kc, t.1, ty_0, nI_1]
  have F5 := Frm.set (e := .inl (0, 8, .inl (upd fs k (nI (sz k + 1))))) d6 rfl
  have e1 := (F5.2.2 r (by omega)).trans d1
  have e2 := (F5.2.2 (r + 1) (by omega)).trans d2
  have e3 := (F5.2.2 (r + 2) (by omega)).trans d3
  have e4 := (F5.2.2 (r + 3) (by omega)).trans d4
  have e5 := (F5.2.2 (r + 4) (by omega)).trans d5
  have e6 := pm_at_self (e := .inl (0, 8, .inl (upd fs k (nI (sz k + 1))))) (pm_v_at d6)
  generalize pm_set B hD (r + 5) (.inl (0, 8, .inl (upd fs k (nI (sz k + 1))))) = hE at F5 e1 e2 e3 e4 e5 e6 ⊢
  simp only [u_32_75, u_32_75n, u_32_76, u_32_76i, u_32_77, u_32_80, u_32_81, u_32_82, u_32_85, pm_O_some, pm_w_nil, pm_w_i, pm_w_l, pm_w_r, pm_w_n, pm_c_n, pm_c_i, pm_c_l, pm_c_r, pm_c_u, Nat.reduceAdd, Nat.reduceLeDiff, true_and, Option.toList_some, Option.toList_none, List.cons_append, List.nil_append, e1, gf_3_6, pf_3_6, nI_1]
  have F6 := Frm.set (e := .inr (3, [.ref (r + 1), .ref (r + 2), .ref (r + 3), .ref (r + 4), .ref (r + 5), .int (nI (k + 1)), .int (nI (su sz (k + 1) + 1))])) e1 rfl
  have FF : Frm B h (pm_set B hE r (.inr (3, [.ref (r + 1), .ref (r + 2), .ref (r + 3), .ref (r + 4), .ref (r + 5), .int (nI (k + 1)), .int (nI (su sz (k + 1) + 1))]))) r (r + 6) := (((((F1.mono (by omega) (by omega)).trans (F2.mono (by omega) (by omega))).trans (F3.mono (by omega) (by omega))).trans (F4.mono (by omega) (by omega))).trans (F5.mono (by omega) (by omega))).trans (F6.mono (by omega) (by omega))
  have esu : su (ups sz k (sz k + 1)) (k + 1) = su sz (k + 1) + 1 := by
    rw [su, su, ups_s, su_congr (g := sz) (fun i hi => ups_n (by omega))]
    omega
  refine hQ _ ⟨_, _, _, _, _, ⟨?_, (F6.2.2 _ (by omega)).trans e2, (F6.2.2 _ (by omega)).trans e3, (F6.2.2 _ (by omega)).trans e4, (F6.2.2 _ (by omega)).trans e5, (F6.2.2 _ (by omega)).trans e6⟩, g1, fun j hj => ?_⟩ FF
  · rw [esu]
    exact pm_at_self (pm_v_at e1)
  · have tj := g2 j hj
    by_cases e : j = k
    · subst e
      rw [ups_s, ups_s]
      refine ⟨if_pos rfl, by omega, fun i hi => ?_⟩
      by_cases ei : i = sz j
      · subst ei
        rw [ups_s]
        exact ⟨if_pos rfl, if_pos rfl, if_pos rfl, if_pos rfl, hT⟩
      · rw [ups_n ei]
        have w := tj.2.2 i (by omega)
        have ne : ¬ j * 6 + i = j * 6 + sz j := by omega
        exact ⟨(if_neg ne).trans w.1, (if_neg ne).trans w.2.1, (if_neg ne).trans w.2.2.1, (if_neg ne).trans w.2.2.2.1, w.2.2.2.2⟩
    · rw [ups_n e, ups_n e]
      refine ⟨(if_neg e).trans tj.1, tj.2.1, fun i hi => ?_⟩
      have w := tj.2.2 i hi
      have ne : ¬ j * 6 + i = k * 6 + sz k := by have := tj.2.1; omega
      exact ⟨(if_neg ne).trans w.1, (if_neg ne).trans w.2.1, (if_neg ne).trans w.2.2.1, (if_neg ne).trans w.2.2.2.1, w.2.2.2.2⟩
end PD

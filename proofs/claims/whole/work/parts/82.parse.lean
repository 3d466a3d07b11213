/-! THE READING OF RULES: what it is; the reader's small methods. -/
def lk (tx : Nat → Nat) (ln p : Nat) : Nat := if p < ln then tx p else 0
def skp (tx : Nat → Nat) (ln : Nat) : Nat → Nat → Nat
  | 0, p => p
  | m + 1, p => if p < ln ∧ tx p = 32 then skp tx ln m (p + 1) else p
/-- the first place from p on that is no blank -/
def sk (tx : Nat → Nat) (ln p : Nat) : Nat := skp tx ln (ln - p) p
def dgp (tx : Nat → Nat) (ln : Nat) : Nat → Nat → Nat
  | 0, p => p
  | m + 1, p => if p < ln ∧ 48 ≤ tx p ∧ tx p ≤ 57 then dgp tx ln m (p + 1) else p
/-- the first place from p on that is no digit -/
def de (tx : Nat → Nat) (ln p : Nat) : Nat := dgp tx ln (ln - p) p
def vl (tx : Nat → Nat) (p : Nat) : Nat → Nat
  | 0 => 0
  | d + 1 => vl tx p d * 10 + (tx (p + d) - 48)
abbrev nok3 (tx : Nat → Nat) (ln p : Nat) : Prop := 1 ≤ de tx ln p - p ∧ de tx ln p - p ≤ 3 ∧ ¬ tx p = 48
def tml (tx : Nat → Nat) (ln c u l p : Nat) : Nat ⊕ (Tm × Nat) := if 97 ≤ lk tx ln p ∧ lk tx ln p ≤ 104 then .inr ((c, u, l, lk tx ln p - 97), p + 1) else .inl p
/-- a term from p on: the wrong place, or the term and the place behind it -/
def trm (tx : Nat → Nat) (ln p : Nat) : Nat ⊕ (Tm × Nat) :=
  if lk tx ln p = 43 ∨ lk tx ln p = 45 ∨ lk tx ln p = 42 then
    if 48 ≤ lk tx ln (sk tx ln (p + 1)) ∧ lk tx ln (sk tx ln (p + 1)) ≤ 57 then
      if nok3 tx ln (sk tx ln (p + 1)) then
        if lk tx ln (sk tx ln (de tx ln (sk tx ln (p + 1)))) = 47 then
          if nok3 tx ln (sk tx ln (sk tx ln (de tx ln (sk tx ln (p + 1))) + 1)) then tml tx ln (lk tx ln p) (vl tx (sk tx ln (p + 1)) (de tx ln (sk tx ln (p + 1)) - sk tx ln (p + 1))) (vl tx (sk tx ln (sk tx ln (de tx ln (sk tx ln (p + 1))) + 1)) (de tx ln (sk tx ln (sk tx ln (de tx ln (sk tx ln (p + 1))) + 1)) - sk tx ln (sk tx ln (de tx ln (sk tx ln (p + 1))) + 1))) (sk tx ln (de tx ln (sk tx ln (sk tx ln (de tx ln (sk tx ln (p + 1))) + 1))))
          else .inl (sk tx ln (sk tx ln (de tx ln (sk tx ln (p + 1))) + 1))
        else tml tx ln (lk tx ln p) (vl tx (sk tx ln (p + 1)) (de tx ln (sk tx ln (p + 1)) - sk tx ln (p + 1))) 1 (sk tx ln (de tx ln (sk tx ln (p + 1))))
      else .inl (sk tx ln (p + 1))
    else tml tx ln (lk tx ln p) 1 1 (sk tx ln (p + 1))
  else .inl p
section PA
variable {tx : Nat → Nat} {ln p m d : Nat}
theorem sk_t (h1 : p < ln) (h2 : tx p = 32) : sk tx ln p = sk tx ln (p + 1) := by
  unfold sk
  rw [show ln - p = (ln - (p + 1)) + 1 by omega, skp, if_pos ⟨h1, h2⟩]
theorem sk_f (h : ¬ (p < ln ∧ tx p = 32)) : sk tx ln p = p := by
  unfold sk
  cases hm : ln - p with
  | zero => rw [skp]
  | succ m => rw [skp, if_neg h]
theorem skp_b : ∀ m p, p + m ≤ ln → p ≤ skp tx ln m p ∧ skp tx ln m p ≤ ln
  | 0, p, h => by rw [skp]; omega
  | m + 1, p, h => by
    rw [skp]
    split
    · have := skp_b m (p + 1) (by omega)
      omega
    · omega
theorem sk_b (h : p ≤ ln) : p ≤ sk tx ln p ∧ sk tx ln p ≤ ln := skp_b _ _ (by omega)
theorem skp_n : ∀ m p, ¬ (skp tx ln m p < p + m ∧ tx (skp tx ln m p) = 32 ∧ skp tx ln m p < ln)
  | 0, p => by rw [skp]; omega
  | m + 1, p => by
    rw [skp]
    split
    · have := skp_n m (p + 1)
      omega
    · omega
theorem sk_n : ¬ (sk tx ln p < ln ∧ tx (sk tx ln p) = 32) := by
  intro c
  have t := skp_n (tx := tx) (ln := ln) (ln - p) p
  unfold sk at c
  by_cases z : p ≤ ln
  · omega
  · rw [show ln - p = 0 by omega, skp] at c
    omega
theorem sk_sk : sk tx ln (sk tx ln p) = sk tx ln p := sk_f sk_n
theorem de_t (h1 : p < ln) (h2 : 48 ≤ tx p ∧ tx p ≤ 57) : de tx ln p = de tx ln (p + 1) := by
  unfold de
  rw [show ln - p = (ln - (p + 1)) + 1 by omega, dgp, if_pos ⟨h1, h2⟩]
theorem de_f (h : ¬ (p < ln ∧ 48 ≤ tx p ∧ tx p ≤ 57)) : de tx ln p = p := by
  unfold de
  cases hm : ln - p with
  | zero => rw [dgp]
  | succ m => rw [dgp, if_neg h]
theorem dgp_b : ∀ m p, p + m ≤ ln → p ≤ dgp tx ln m p ∧ dgp tx ln m p ≤ ln ∧ ∀ i, p ≤ i → i < dgp tx ln m p → 48 ≤ tx i ∧ tx i ≤ 57
  | 0, p, h => by rw [dgp]; exact ⟨by omega, by omega, fun i h1 h2 => by omega⟩
  | m + 1, p, h => by
    rw [dgp]
    split
    · rename_i z
      have := dgp_b m (p + 1) (by omega)
      refine ⟨by omega, this.2.1, fun i h1 h2 => ?_⟩
      by_cases e : i = p
      · rw [e]
        exact z.2
      · exact this.2.2 i (by omega) h2
    · exact ⟨by omega, by omega, fun i h1 h2 => by omega⟩
theorem de_b (h : p ≤ ln) : p ≤ de tx ln p ∧ de tx ln p ≤ ln ∧ ∀ i, p ≤ i → i < de tx ln p → 48 ≤ tx i ∧ tx i ≤ 57 := dgp_b _ _ (by omega)
theorem vl_b : ∀ d, (∀ i, p ≤ i → i < p + d → 48 ≤ tx i ∧ tx i ≤ 57) → vl tx p d < 10 ^ d
  | 0, _ => by rw [vl]; omega
  | d + 1, h => by
    have := vl_b d (fun i h1 h2 => h i h1 (by omega))
    have t := h (p + d) (by omega) (by omega)
    rw [vl, Nat.pow_succ]
    omega
theorem vl_pos : ∀ d, 1 ≤ d → 49 ≤ tx p → 1 ≤ vl tx p d
  | 0, h, _ => by omega
  | 1, _, h => by rw [vl, vl]; show 1 ≤ 0 * 10 + (tx (p + 0) - 48); rw [Nat.add_zero]; omega
  | d + 2, _, h => by
    have := vl_pos (d + 1) (by omega) h
    rw [vl]
    omega
theorem nok_vl (h : p ≤ ln) (h2 : nok3 tx ln p) : 1 ≤ vl tx p (de tx ln p - p) ∧ vl tx p (de tx ln p - p) ≤ 999 := by
  have t := de_b (tx := tx) h
  have t0 := t.2.2 p (Nat.le_refl _) (by have := h2.1; omega)
  refine ⟨vl_pos _ h2.1 (by have := h2.2.2; omega), ?_⟩
  have t1 := vl_b (tx := tx) (p := p) (de tx ln p - p) (fun i a b => t.2.2 i a (by omega))
  have t2 : 10 ^ (de tx ln p - p) ≤ 10 ^ 3 := Nat.pow_le_pow_right (by decide) h2.2.1
  omega
theorem lk_lt {c : Nat} (h : lk tx ln p = c) (hc : 0 < c) : p < ln ∧ tx p = c := by
  unfold lk at h
  split at h
  · exact ⟨by assumption, h⟩
  · omega
theorem lk_b (h : ∀ i, i < ln → 32 ≤ tx i ∧ tx i ≤ 126) : lk tx ln p ≤ 126 := by
  unfold lk
  split
  · rename_i z
    exact (h p z).2
  · omega
end PA
/-- the reader's cells, at place p -/
def RdP (B : Nat) (h : pm_H) (ln : Nat) (tx : Nat → Nat) (p : Nat) : Prop := ln ≤ 200 ∧ p ≤ ln ∧ ∃ fT, pm_at B h (B + 3) = some (.inr (2, [.ref (B + 4), .int (nI ln), .int (nI p)])) ∧ pm_at B h (B + 4) = some (.inl (2, 200, .inl fT)) ∧ ∀ i, i < ln → fT i = nI (tx i) ∧ 32 ≤ tx i ∧ tx i ≤ 126
section PB
variable {B : Nat} {X : pm_X} {h h' : pm_H} {Q : Option Value → pm_H → Prop} {lo hi ln p c : Nat} {tx : Nat → Nat}
theorem RdP.frm (n1 : RdP B h ln tx p) (f1 : Frm B h h' lo hi) (d : hi ≤ B + 3 ∨ B + 5 ≤ lo) : RdP B h' ln tx p := by
  obtain ⟨h1, h2, fT, h3, h4, h5⟩ := n1
  exact ⟨h1, h2, fT, by rw [f1.2.2 _ (by omega)]; exact h3, by rw [f1.2.2 _ (by omega)]; exact h4, h5⟩
theorem RdP.io (n1 : RdP B h ln tx p) : pm_io B h (B + 3) 2 = true := by
  obtain ⟨h1, h2, fT, h3, h4, h5⟩ := n1
  exact pm_io_of h3
/-- the place is set -/
theorem RdP.put {q : Nat} (n1 : RdP B h ln tx p) (hq : q ≤ ln) : RdP B (pm_set B h (B + 3) (.inr (2, [.ref (B + 4), .int (nI ln), .int (nI q)]))) ln tx q ∧ Frm B h (pm_set B h (B + 3) (.inr (2, [.ref (B + 4), .int (nI ln), .int (nI q)]))) (B + 3) (B + 4) := by
  obtain ⟨h1, h2, fT, h3, h4, h5⟩ := n1
  have F := Frm.set (e := .inr (2, [.ref (B + 4), .int (nI ln), .int (nI q)])) h3 rfl
  exact ⟨⟨h1, hq, fT, pm_at_self (pm_v_at h3), (F.2.2 _ (by omega)).trans h4, h5⟩, F⟩
theorem c_narrow {c : Nat} (h : c ≤ 126) : narrow .char (.int (nI c)) = .int (nI c) := by
  show Value.int _ = _
  rw [lg_i2c_small (by rw [nI_toInt (by omega)]; omega) (by rw [nI_toInt (by omega)]; omega)]
theorem s_here (n1 : RdP B h ln tx p) : PW B X 28 0 [some (.ref (B + 3))] [] h Q ↔ Q (some (.int (nI (lk tx ln p)))) h := by
  obtain ⟨h1, h2, fT, h3, h4, h5⟩ := n1
  have e1 : ¬ nI p < 0 := nI_pos (by omega)
  unfold lk
  by_cases z : p < ln
  · have e2 : ¬ nI ln ≤ nI p := nI_ge z (by omega)
    have t := h5 p z
    simp only [u_28_0, u_28_0n, u_28_1, u_28_4, u_28_7, u_28_7n, u_28_8, u_28_11, u_28_11n, u_28_12, u_28_15, u_28_18, u_28_18n, u_28_19, u_28_22, u_28_22n, u_28_23, u_28_26, u_28_27, pm_O_some, pm_w_nil, pm_w_i, pm_w_l, pm_w_r, pm_w_n, pm_c_n, pm_c_i, pm_c_l, pm_c_r, pm_c_u, Nat.reduceAdd, Nat.reduceLeDiff, true_and, Option.toList_some, Option.toList_none, List.cons_append, List.nil_append, h3, gf_2_0, gf_2_1, gf_2_2, if_neg e1, if_neg e2, h4, ld_i (t := 2) (pm_ix_of (show p < 200 by omega) (by decide)) rfl, nI_clamp (show p < 2 ^ 31 by omega), t.1, if_pos z]
    rw [u_28_31 (c_narrow t.2.2)]
  · have e2 : nI ln ≤ nI p := nI_le (by omega) (by omega)
    simp only [u_28_0, u_28_0n, u_28_1, u_28_4, u_28_7, u_28_7n, u_28_8, u_28_11, u_28_11n, u_28_12, u_28_15, u_28_18, u_28_18n, u_28_19, u_28_22, u_28_22n, u_28_23, u_28_26, u_28_27, u_28_30, pm_O_some, pm_w_nil, pm_w_i, pm_w_l, pm_w_r, pm_w_n, pm_c_n, pm_c_i, pm_c_l, pm_c_r, pm_c_u, Nat.reduceAdd, Nat.reduceLeDiff, true_and, Option.toList_some, Option.toList_none, List.cons_append, List.nil_append, h3, gf_2_1, gf_2_2, if_neg e1, if_pos e2, if_neg z]
    exact u_28_31 (c_narrow (c := 0) (by omega))
theorem c_skip (n1 : RdP B h ln tx p) (hQ : ∀ h', RdP B h' ln tx (sk tx ln p) → Frm B h h' (B + 3) (B + 4) → Q none h') : PW B X 23 0 [some (.ref (B + 3)), none] [] h Q := by
  have hl := n1.1
  have loop : ∀ m q hc, q + m = ln → sk tx ln q = sk tx ln p → RdP B hc ln tx q → Frm B h hc (B + 3) (B + 4) → PW B X 23 5 [some (.ref (B + 3)), some (.int (nI q))] [] hc Q := by
    intro m
    induction m with
    | zero =>
      intro q hc hq e m1 m2
      obtain ⟨h1, h2, fT, h3, h4, h5⟩ := id m1
      have e2 : nI ln ≤ nI q := nI_le (by omega) (by omega)
      simp only [u_23_5, u_23_6, u_23_6n, u_23_7, u_23_10, u_23_37, pm_O_some, pm_w_nil, pm_w_i, pm_w_l, pm_w_r, pm_w_n, pm_c_n, pm_c_i, pm_c_l, pm_c_r, pm_c_u, Nat.reduceAdd, Nat.reduceLeDiff, true_and, Option.toList_some, Option.toList_none, List.cons_append, List.nil_append, h3, gf_2_1, if_pos e2]
      rw [sk_f (by omega)] at e
      rw [← e] at hQ
      exact hQ hc m1 m2
    | succ m ih =>
      intro q hc hq e m1 m2
      have hqn : q < ln := by omega
      obtain ⟨h1, h2, fT, h3, h4, h5⟩ := id m1
      have e2 : ¬ nI ln ≤ nI q := nI_ge hqn (by omega)
      have t := h5 q hqn
      by_cases z : tx q = 32
      · have e3 : nI (tx q) = 32 := by rw [z]; rfl
        rw [u_23_5]
        simp only [u_23_6, u_23_6n, u_23_7, u_23_10, u_23_13, u_23_13n, u_23_14, u_23_17, u_23_18, u_23_19, u_23_21, u_23_24, u_23_24n, u_23_25, u_23_26, u_23_27, u_23_28, u_23_31, u_23_34, pm_O_some, pm_w_nil, pm_w_i, pm_w_l, pm_w_r, pm_w_n, pm_c_n, pm_c_i, pm_c_l, pm_c_r, pm_c_u, Nat.reduceAdd, Nat.reduceLeDiff, true_and, Option.toList_some, Option.toList_none, List.cons_append, List.nil_append, h3, gf_2_0, gf_2_1, pf_2_2, if_neg e2, h4, ld_i (t := 2) (pm_ix_of (show q < 200 by omega) (by decide)) rfl, nI_clamp (show q < 2 ^ 31 by omega), t.1, e3, not_true, if_false, nI_1]
        obtain ⟨w1, w2⟩ := m1.put (q := q + 1) (by omega)
        exact ih (q + 1) _ (by omega) (by rw [← sk_t hqn z]; exact e) w1 (m2.trans w2)
      · have e3 : ¬ nI (tx q) = 32 := fun c => z ((nI_eq (b := 32) (by omega) (by decide)).mp c)
        simp only [u_23_5, u_23_6, u_23_6n, u_23_7, u_23_10, u_23_13, u_23_13n, u_23_14, u_23_17, u_23_18, u_23_19, u_23_21, u_23_37, pm_O_some, pm_w_nil, pm_w_i, pm_w_l, pm_w_r, pm_w_n, pm_c_n, pm_c_i, pm_c_l, pm_c_r, pm_c_u, Nat.reduceAdd, Nat.reduceLeDiff, true_and, Option.toList_some, Option.toList_none, List.cons_append, List.nil_append, h3, gf_2_0, gf_2_1, if_neg e2, h4, ld_i (t := 2) (pm_ix_of (show q < 200 by omega) (by decide)) rfl, nI_clamp (show q < 2 ^ 31 by omega), t.1, e3, not_false_eq_true, if_true]
        rw [sk_f (fun c => z c.2)] at e
        rw [← e] at hQ
        exact hQ hc m1 m2
  obtain ⟨h1, h2, fT, h3, h4, h5⟩ := id n1
  simp only [u_23_0, u_23_0n, u_23_1, u_23_4, pm_O_some, pm_w_nil, pm_w_i, pm_w_l, pm_w_r, pm_w_n, pm_c_n, pm_c_i, pm_c_l, pm_c_r, pm_c_u, Nat.reduceAdd, Nat.reduceLeDiff, true_and, Option.toList_some, Option.toList_none, List.cons_append, List.nil_append, h3, gf_2_2]
  exact loop (ln - p) p h (by omega) rfl n1 Frm.rfl'
theorem c_take (n1 : RdP B h ln tx p) (hc : 0 < c) (hc2 : c < 127) (ht : lk tx ln p = c → ∀ h', RdP B h' ln tx (sk tx ln (p + 1)) → Frm B h h' (B + 3) (B + 4) → Q (some (.int 1)) h') (hf : ¬ lk tx ln p = c → Q (some (.int 0)) h) :
    PW B X 29 0 [some (.ref (B + 3)), some (.int (nI c))] [] h Q := by
  obtain ⟨h1, h2, fT, h3, h4, h5⟩ := id n1
  have hb := lk_b (p := p) (fun i hi => (h5 i hi).2)
  simp only [u_29_0, u_29_0n, u_29_1, u_29_4, pm_O_some, pm_w_nil, pm_w_i, pm_w_l, pm_w_r, pm_w_n, pm_c_n, pm_c_i, pm_c_l, pm_c_r, pm_c_u, Nat.reduceAdd, Nat.reduceLeDiff, true_and, Option.toList_some, Option.toList_none, List.cons_append, List.nil_append, n1.io, s_here n1]
  by_cases z : lk tx ln p = c
  · have e1 : nI (lk tx ln p) = nI c := by rw [z]
    obtain ⟨z1, z2⟩ := lk_lt z hc
    simp only [u_29_5, u_29_8, u_29_9, u_29_9_0, u_29_9_1, u_29_10, u_29_10n, u_29_11, u_29_11i, u_29_12, u_29_15, u_29_16, u_29_17, pm_O_some, pm_w_nil, pm_w_i, pm_w_l, pm_w_r, pm_w_n, pm_c_n, pm_c_i, pm_c_l, pm_c_r, pm_c_u, Nat.reduceAdd, Nat.reduceLeDiff, true_and, Option.toList_some, Option.toList_none, List.cons_append, List.nil_append, if_pos e1, h3, gf_2_2, pf_2_2, nI_1]
    obtain ⟨w1, w2⟩ := n1.put (q := p + 1) (by omega)
    simp only [u_29_20, u_29_20n, u_29_21, pm_O_some, pm_w_nil, pm_w_i, pm_w_l, pm_w_r, pm_w_n, pm_c_n, pm_c_i, pm_c_l, pm_c_r, pm_c_u, Nat.reduceAdd, Nat.reduceLeDiff, true_and, Option.toList_some, Option.toList_none, List.cons_append, List.nil_append, w1.io]
    refine c_skip w1 (fun hA y1 y2 => ?_)
    simp only [u_29_24, u_29_25, u_29_25_0, u_29_25_1, pm_O_some, pm_w_nil, pm_w_i, pm_w_l, pm_w_r, pm_w_n, pm_c_n, pm_c_i, pm_c_l, pm_c_r, pm_c_u, Nat.reduceAdd, Nat.reduceLeDiff, true_and, Option.toList_some, Option.toList_none, List.cons_append, List.nil_append]
    exact ht z hA y1 (w2.trans y2)
  · have e1 : ¬ nI (lk tx ln p) = nI c := fun y => z ((nI_eq (by omega) (by omega)).mp y)
    simp only [u_29_5, u_29_8, u_29_9, u_29_9_0, u_29_9_1, pm_O_some, pm_w_nil, pm_w_i, pm_w_l, pm_w_r, pm_w_n, pm_c_n, pm_c_i, pm_c_l, pm_c_r, pm_c_u, Nat.reduceAdd, Nat.reduceLeDiff, true_and, Option.toList_some, Option.toList_none, List.cons_append, List.nil_append, if_neg e1]
    exact hf z
theorem w_dig {c : Nat} (h : c ≤ 126) : ((48 : Int32) ≤ nI c ∧ nI c ≤ 57) ↔ (48 ≤ c ∧ c ≤ 57) := by
  rw [i_le, i_le, nI_toInt (by omega)]
  show ((48 : Int) ≤ (c : Int) ∧ (c : Int) ≤ 57) ↔ _
  omega
theorem w_let {c : Nat} (h : c ≤ 126) : ((97 : Int32) ≤ nI c ∧ nI c ≤ 104) ↔ (97 ≤ c ∧ c ≤ 104) := by
  rw [i_le, i_le, nI_toInt (by omega)]
  show ((97 : Int) ≤ (c : Int) ∧ (c : Int) ≤ 104) ↔ _
  omega
theorem s_digit (n1 : RdP B h ln tx p) : PW B X 30 0 [some (.ref (B + 3))] [] h Q ↔ Q (some (.int (if 48 ≤ lk tx ln p ∧ lk tx ln p ≤ 57 then 1 else 0))) h := by
  obtain ⟨h1, h2, fT, h3, h4, h5⟩ := id n1
  have hb := lk_b (p := p) (fun i hi => (h5 i hi).2)
  by_cases z : 48 ≤ lk tx ln p ∧ lk tx ln p ≤ 57
  · simp only [u_30_0, u_30_0n, u_30_1, u_30_4, u_30_6, u_30_8, u_30_11, u_30_11_0, u_30_11_1, pm_O_some, pm_w_nil, pm_w_i, pm_w_l, pm_w_r, pm_w_n, pm_c_n, pm_c_i, pm_c_l, pm_c_r, pm_c_u, Nat.reduceAdd, Nat.reduceLeDiff, true_and, Option.toList_some, Option.toList_none, List.cons_append, List.nil_append, n1.io, s_here n1, s_within, if_pos ((w_dig hb).mpr z), if_pos z]
  · simp only [u_30_0, u_30_0n, u_30_1, u_30_4, u_30_6, u_30_8, u_30_11, u_30_11_0, u_30_11_1, pm_O_some, pm_w_nil, pm_w_i, pm_w_l, pm_w_r, pm_w_n, pm_c_n, pm_c_i, pm_c_l, pm_c_r, pm_c_u, Nat.reduceAdd, Nat.reduceLeDiff, true_and, Option.toList_some, Option.toList_none, List.cons_append, List.nil_append, n1.io, s_here n1, s_within, if_neg (mt (w_dig hb).mp z), if_neg z]
end PB

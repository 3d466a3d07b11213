/-! Long.signum, Fraction.put. -/
theorem sh_a (z : Int64) : (z >>> ((63 : Int32).toInt64 &&& 63)).toInt = if z.toInt < 0 then -1 else 0 := by
  have e : (z >>> ((63 : Int32).toInt64 &&& 63)).toBitVec = z.toBitVec.sshiftRight 63 := rfl
  show (z >>> ((63 : Int32).toInt64 &&& 63)).toBitVec.toInt = _
  rw [e, BitVec.toInt_sshiftRight]
  show z.toInt >>> 63 = _
  have h1 := z.le_toInt
  have h2 := z.toInt_lt
  rw [Int.shiftRight_eq_div_pow]
  split <;> omega
theorem sh_u (z : Int64) : ((z.toUInt64 >>> ((63 : Int32).toInt64.toUInt64 &&& Int64.toUInt64 63)).toInt64).toInt = if z.toInt < 0 then 1 else 0 := by
  have e : ((z.toUInt64 >>> ((63 : Int32).toInt64.toUInt64 &&& Int64.toUInt64 63)).toInt64).toBitVec = z.toBitVec >>> 63 := rfl
  show ((z.toUInt64 >>> ((63 : Int32).toInt64.toUInt64 &&& Int64.toUInt64 63)).toInt64).toBitVec.toInt = _
  rw [e]
  have hz : z.toInt = z.toBitVec.toInt := rfl
  have c := BitVec.toInt_eq_toNat_cond z.toBitVec
  have hl := z.toBitVec.isLt
  have hn : (z.toBitVec >>> 63).toNat = z.toBitVec.toNat / 2 ^ 63 := by rw [BitVec.toNat_ushiftRight, Nat.shiftRight_eq_div_pow]
  have c2 := BitVec.toInt_eq_toNat_cond (z.toBitVec >>> 63)
  rw [hn] at c2
  rw [hz, c2]
  split at c <;> split <;> split <;> omega
section SG
variable {B : Nat} {X : pm_X} {h h' : pm_H} {Q : Option Value → pm_H → Prop} {p U0 L0 : Nat} {s : Int32} {z : Int64} {tt : Int}
theorem s_signum (h1 : -2 ^ 62 < tt) (h2 : tt < 2 ^ 62) : PW B X 39 0 [some (.long (lI tt)), none] [] h Q ↔ Q (some (.int (sg tt))) h := by
  have key : ((lI tt >>> ((63 : Int32).toInt64 &&& 63)) ||| (((-lI tt).toUInt64 >>> ((63 : Int32).toInt64.toUInt64 &&& Int64.toUInt64 63)).toInt64)).toInt32 = sg tt := by
    have a := sh_a (lI tt)
    have u := sh_u (-lI tt)
    rw [lI_T (by omega) (by omega)] at a
    rw [lI_neg, lI_T (by omega) (by omega)] at u
    rw [lI_neg]
    generalize lI tt >>> ((63 : Int32).toInt64 &&& 63) = A at a ⊢
    generalize ((lI (-tt)).toUInt64 >>> ((63 : Int32).toInt64.toUInt64 &&& Int64.toUInt64 63)).toInt64 = U at u ⊢
    unfold sg
    rcases Int.lt_trichotomy tt 0 with z | z | z
    · rw [if_pos z] at a ⊢
      rw [if_neg (by omega)] at u
      rw [Int64.toInt_inj.mp (show A.toInt = (-1 : Int64).toInt by rw [a]; rfl), Int64.toInt_inj.mp (show U.toInt = (0 : Int64).toInt by rw [u]; rfl)]
      rfl
    · rw [if_neg (by omega)] at a ⊢
      rw [if_neg (by omega)] at u
      rw [if_pos z, Int64.toInt_inj.mp (show A.toInt = (0 : Int64).toInt by rw [a]; rfl), Int64.toInt_inj.mp (show U.toInt = (0 : Int64).toInt by rw [u]; rfl)]
      rfl
    · rw [if_neg (by omega)] at a ⊢
      rw [if_pos (by omega)] at u
      rw [if_neg (by omega), Int64.toInt_inj.mp (show A.toInt = (0 : Int64).toInt by rw [a]; rfl), Int64.toInt_inj.mp (show U.toInt = (1 : Int64).toInt by rw [u]; rfl)]
      rfl
  simp only [u_39_0, u_39_1, u_39_3, u_39_4, u_39_5, u_39_6, u_39_8, u_39_9, u_39_10, u_39_11, pm_O_some, pm_w_nil, pm_w_i, pm_w_l, pm_w_r, pm_w_n, pm_c_n, pm_c_i, pm_c_l, pm_c_r, pm_c_u, Nat.reduceAdd, Nat.reduceLeDiff, true_and, Option.toList_some, Option.toList_none, List.cons_append, List.nil_append, key]
/-- Fraction.put(above, below): the quotient, in least terms -/
theorem c_fput {d : Nat} (n1 : FracV B h p s U0 L0) (h1 : -2 ^ 62 < tt) (h2 : tt < 2 ^ 62) (hd : 0 < d) (hd2 : d < 2 ^ 45) (hQ : ∀ h', FracQ B h' p (mkRat tt d) → Frm B h h' p (p + 5) → Q none h') :
    PW B X 37 0 [some (.ref p), some (.long (lI tt)), none, some (.long (lN d)), none, none, none] [] h Q := by
  obtain ⟨g1, g2, g3⟩ := n1
  have hab : tt.natAbs < 2 ^ 62 := by omega
  have hg0 : 0 < Nat.gcd d tt.natAbs := Nat.gcd_pos_of_pos_left _ hd
  have hgd : Nat.gcd d tt.natAbs ≤ d := Nat.gcd_le_left _ hd
  have hgl : Nat.gcd d tt.natAbs < 2 ^ 63 := by omega
  simp only [u_37_0, u_37_1, u_37_2, u_37_5, u_37_8, u_37_10, u_37_12, u_37_13, u_37_14, u_37_17, u_37_18, u_37_18n, u_37_19, u_37_20, u_37_23, pm_O_some, pm_w_nil, pm_w_i, pm_w_l, pm_w_r, pm_w_n, pm_c_n, pm_c_i, pm_c_l, pm_c_r, pm_c_u, Nat.reduceAdd, Nat.reduceLeDiff, true_and, Option.toList_some, Option.toList_none, List.cons_append, List.nil_append, lI_abs (show -2 ^ 63 < tt by omega) (show tt < 2 ^ 63 by omega), c_gcd hd2 (show tt.natAbs < 2 ^ 63 by omega), lg_cmp_gt, if_pos (l_gt0 hg0 hgl), s_signum h1 h2, g1, pf_8_0]
  have F0 := Frm.set (e := .inr (8, [.int (sg tt), .ref (p + 1), .ref (p + 3)])) g1 rfl
  have a2 := pm_at_self (e := .inr (8, [.int (sg tt), .ref (p + 1), .ref (p + 3)])) (pm_v_at g1)
  generalize pm_set B h p (.inr (8, [.int (sg tt), .ref (p + 1), .ref (p + 3)])) = ha at F0 a2 ⊢
  have a3 := g2.frm F0 (by omega)
  have a4 := g3.frm F0 (by omega)
  simp only [u_37_26, u_37_26n, u_37_27, u_37_30, u_37_31, u_37_34, u_37_36, u_37_37, pm_O_some, pm_w_nil, pm_w_i, pm_w_l, pm_w_r, pm_w_n, pm_c_n, pm_c_i, pm_c_l, pm_c_r, pm_c_u, Nat.reduceAdd, Nat.reduceLeDiff, true_and, Option.toList_some, Option.toList_none, List.cons_append, List.nil_append, a2, gf_8_1, lI_abs (show -2 ^ 63 < tt by omega) (show tt < 2 ^ 63 by omega), l_ne0 hg0 hgl, not_false_eq_true, pk_lDiv (show tt.natAbs < 2 ^ 63 by omega) hg0 hgl, a3.io]
  refine c_nput a3 (Nat.lt_of_le_of_lt (Nat.div_le_self _ _) (by omega)) (fun hb k1 F1 => ?_)
  have b2 : pm_at B hb p = _ := (F1.2.2 p (by omega)).trans a2
  have b4 := a4.frm F1 (by omega)
  simp only [u_37_40, u_37_40n, u_37_41, u_37_44, u_37_45, u_37_47, u_37_48, pm_O_some, pm_w_nil, pm_w_i, pm_w_l, pm_w_r, pm_w_n, pm_c_n, pm_c_i, pm_c_l, pm_c_r, pm_c_u, Nat.reduceAdd, Nat.reduceLeDiff, true_and, Option.toList_some, Option.toList_none, List.cons_append, List.nil_append, b2, gf_8_2, l_ne0 hg0 hgl, not_false_eq_true, pk_lDiv (show d < 2 ^ 63 by omega) hg0 hgl, b4.io]
  refine c_nput b4 (Nat.lt_of_le_of_lt (Nat.div_le_self _ _) (by omega)) (fun hc k2 F2 => ?_)
  simp only [u_37_51, pm_O_some, pm_w_nil, pm_w_i, pm_w_l, pm_w_r, pm_w_n, pm_c_n, pm_c_i, pm_c_l, pm_c_r, pm_c_u, Nat.reduceAdd, Nat.reduceLeDiff, true_and, Option.toList_some, Option.toList_none, List.cons_append, List.nil_append]
  have e : Nat.gcd (tt.natAbs / Nat.gcd d tt.natAbs) (d / Nat.gcd d tt.natAbs) = 1 := by
    rw [Nat.gcd_comm d]
    exact Nat.coprime_div_gcd_div_gcd (by rw [Nat.gcd_comm]; exact hg0)
  have hdd : 0 < d / Nat.gcd d tt.natAbs := Nat.div_pos hgd hg0
  have em : tt.natAbs / Nat.gcd d tt.natAbs * d = tt.natAbs * (d / Nat.gcd d tt.natAbs) := by
    obtain ⟨u, hu⟩ := Nat.gcd_dvd_right d tt.natAbs
    obtain ⟨v, hv⟩ := Nat.gcd_dvd_left d tt.natAbs
    generalize Nat.gcd d tt.natAbs = G at hu hv hg0 ⊢
    rw [hu, hv, Nat.mul_div_cancel_left _ hg0, Nat.mul_div_cancel_left _ hg0, Nat.mul_left_comm, Nat.mul_assoc]
  obtain ⟨y1, y2, y3⟩ := rat_of (D := tt) hd hdd e em
  refine hQ hc ?_ (((F0.mono (by omega) (by omega)).trans (F1.mono (by omega) (by omega))).trans (F2.mono (by omega) (by omega)))
  unfold FracQ
  rw [y1, y2, y3]
  exact ⟨(F2.2.2 p (by omega)).trans b2, k1.frm F2 (by omega), k2⟩
end SG

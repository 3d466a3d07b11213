/-! NATURALS, g: a natural as its value (NatV), what a call leaves alone (Frm); the contracts in these words; the common divisor. -/
def NatV (B : Nat) (h : pm_H) (a V : Nat) : Prop := ∃ f n, pm_at B h a = some (.inr (5, [.ref (a + 1), .int (nI n)])) ∧ pm_at B h (a + 1) = some (.inl (1, 12, .inr (.inl f))) ∧ lok f n ∧ n ≤ 12 ∧ nrm f n ∧ nv f n = V
/-- the heap has changed within lo .. hi - 1 alone, no cell has come -/
def Frm (B : Nat) (h h' : pm_H) (lo hi : Nat) : Prop := h'.length = h.length ∧ pm_sl h' = pm_sl h ∧ ∀ q, q < lo ∨ hi ≤ q → pm_at B h' q = pm_at B h q
section NG
variable {B : Nat} {X : pm_X} {h h' h2 : pm_H} {Q : Option Value → pm_H → Prop} {a b c lo hi V W U : Nat}
theorem Frm.rfl' : Frm B h h lo hi := ⟨rfl, rfl, fun _ _ => rfl⟩
theorem Frm.trans (f1 : Frm B h h' lo hi) (f2 : Frm B h' h2 lo hi) : Frm B h h2 lo hi := ⟨f2.1.trans f1.1, f2.2.1.trans f1.2.1, fun q hq => (f2.2.2 q hq).trans (f1.2.2 q hq)⟩
theorem Frm.mono {lo' hi' : Nat} (f1 : Frm B h h' lo hi) (h1 : lo' ≤ lo) (h2 : hi ≤ hi') : Frm B h h' lo' hi' := ⟨f1.1, f1.2.1, fun q hq => f1.2.2 q (by omega)⟩
theorem Frm.set {e e0 : pm_E} (k : pm_at B h a = some e0) (hz : pm_sz e = pm_sz e0) : Frm B h (pm_set B h a e) a (a + 1) := ⟨pm_len_set, pm_sl_set k hz, fun q hq => pm_at_ne (pm_v_at k) (by omega)⟩
theorem Frm.v (f1 : Frm B h h' lo hi) {q : Nat} : pm_v B h' q ↔ pm_v B h q := by unfold pm_v; rw [f1.1]
theorem NatV.frm (n1 : NatV B h b W) (f1 : Frm B h h' lo hi) (d : b + 2 ≤ lo ∨ hi ≤ b) : NatV B h' b W := by
  obtain ⟨f, n, h1, h2, r⟩ := n1
  exact ⟨f, n, by rw [f1.2.2 _ (by omega)]; exact h1, by rw [f1.2.2 _ (by omega)]; exact h2, r⟩
theorem NatV.io (n1 : NatV B h b W) : pm_io B h b 5 = true := by
  obtain ⟨f, n, h1, h2, r⟩ := n1
  exact pm_io_of h1
theorem NatV.ok (n1 : NatV B h b W) : nok B h b := by
  obtain ⟨f, n, h1, h2, r⟩ := n1
  exact ⟨pm_v_at h1, pm_v_at h2⟩
theorem NatV.set (n1 : NatV B h a V) {f : Nat → Int64} {n : Nat} (hl : lok f n) (hn : n ≤ 12) (hr : nrm f n) (hv : nv f n = W) : NatV B (nset B h a f (nI n)) a W ∧ Frm B h (nset B h a f (nI n)) a (a + 2) := by
  have v := n1.ok
  obtain ⟨f0, n0, h1, h2, r⟩ := n1
  refine ⟨⟨f, n, ns_at0 v, ns_at1 v, hl, hn, hr, hv⟩, ?_, ?_, fun q hq => ns_ne v (by omega) (by omega)⟩
  · simp [nset, pm_len_set]
  · have k2 : pm_at B (pm_set B h (a + 1) (.inl (1, 12, .inr (.inl f)))) a = some (.inr (5, [.ref (a + 1), .int (nI n0)])) := by rw [pm_at_ne v.2 (by omega), h1]
    unfold nset
    exact (pm_sl_set (e := .inr (5, [.ref (a + 1), .int (nI n)])) k2 rfl).trans (pm_sl_set (e := .inl (1, 12, .inr (.inl f))) h2 rfl)
theorem NatV.lt (n1 : NatV B h a V) : V < 1000000000 ^ 12 := by
  obtain ⟨f, n, h1, h2, hl, hn, hr, rfl⟩ := n1
  exact Nat.lt_of_lt_of_le (nv_lt (fun i hi => (hl i hi).2)) (Nat.pow_le_pow_right (by decide) hn)
theorem sz_of {f : Nat → Int64} {n k : Nat} (hl : lok f n) (hr : nrm f n) (h : nv f n < 1000000000 ^ k) : n ≤ k := by
  rcases Nat.lt_or_ge k n with z | z
  · obtain ⟨n, rfl⟩ : ∃ n', n = n' + 1 := ⟨n - 1, by omega⟩
    have t := nv_ge hl hr
    have : 1000000000 ^ k ≤ 1000000000 ^ n := Nat.pow_le_pow_right (by decide) (by omega)
    omega
  · exact z
theorem c_nput (n1 : NatV B h a W) (hV : V < 2 ^ 63) (hQ : ∀ h', NatV B h' a V → Frm B h h' a (a + 2) → Q none h') : PW B X 9 0 [some (.ref a), some (.long (lN V)), none, none, none, none] [] h Q := by
  have v := n1.ok
  obtain ⟨f, n, h1, h2, hl, hn, hr, hv⟩ := id n1
  rw [← ns_self h1 h2]
  refine s_nput v hV (fun f' n' q1 q2 q3 q4 => ?_)
  obtain ⟨z1, z2⟩ := n1.set q1 q2 q3 q4
  exact hQ _ z1 z2
theorem c_ncopy (n1 : NatV B h a V) (n2 : NatV B h b W) (d : b + 2 ≤ a ∨ a + 2 ≤ b) (hQ : ∀ h', NatV B h' a W → Frm B h h' a (a + 2) → Q none h') : PW B X 46 0 [some (.ref a), some (.ref b), none] [] h Q := by
  have v := n1.ok
  obtain ⟨f, n, h1, h2, hl, hn, hr, hv⟩ := id n1
  obtain ⟨g, m, g1, g2, gl, gn, gr, gv⟩ := n2
  have key := ns_self h1 h2
  have w : PW B X 46 0 [some (.ref a), some (.ref b), none] [] (nset B h a f (nI n)) Q := by
    refine s_ncopy v g1 g2 gn (by omega) (fun f' q1 => ?_)
    obtain ⟨z1, z2⟩ := n1.set (f := f') (n := m) (W := W) (fun i hi => by rw [dg_eq (q1 i hi), q1 i hi]; exact gl i hi) gn (by unfold nrm; rw [tl_congr q1]; exact gr) (by rw [nv_congr (fun i hi => dg_eq (q1 i hi))]; exact gv)
    exact hQ _ z1 z2
  rw [key] at w
  exact w
theorem c_nmul {m : Nat} (n1 : NatV B h a V) (hm : m < 1000000000) (hb : V * m < 1000000000 ^ 12) (hQ : ∀ h', NatV B h' a (V * m) → Frm B h h' a (a + 2) → Q none h') : PW B X 44 0 [some (.ref a), some (.long (lN m)), none, none, none, none, none, none] [] h Q := by
  have v := n1.ok
  obtain ⟨f, n, h1, h2, hl, hn, hr, hv⟩ := id n1
  subst hv
  rw [← ns_self h1 h2]
  refine s_multiply v hl hn hm hb (fun f' n' q1 q2 q3 q4 => ?_)
  obtain ⟨z1, z2⟩ := n1.set q1 q2 q3 q4
  exact hQ _ z1 z2
theorem c_nadd (n1 : NatV B h a V) (n2 : NatV B h b W) (d : b + 2 ≤ a ∨ a + 2 ≤ b) (hb : V + W < 1000000000 ^ 12) (hQ : ∀ h', NatV B h' a (V + W) → Frm B h h' a (a + 2) → Q none h') : PW B X 47 0 [some (.ref a), some (.ref b), none, none, none, none, none, none] [] h Q := by
  have v := n1.ok
  obtain ⟨f, n, h1, h2, hl, hn, hr, hv⟩ := id n1
  obtain ⟨g, m, g1, g2, gl, gn, gr, gv⟩ := n2
  subst hv; subst gv
  have key := ns_self h1 h2
  have w : PW B X 47 0 [some (.ref a), some (.ref b), none, none, none, none, none, none] [] (nset B h a f (nI n)) Q := by
    refine s_nadd v g1 g2 (by omega) hl hn hr gl gn gr hb (fun f' n' q1 q2 q3 q4 => ?_)
    obtain ⟨z1, z2⟩ := n1.set q1 q2 q3 q4
    exact hQ _ z1 z2
  rw [key] at w
  exact w
theorem c_nsub (n1 : NatV B h a V) (n2 : NatV B h b W) (d : b + 2 ≤ a ∨ a + 2 ≤ b) (hb : W ≤ V) (hQ : ∀ h', NatV B h' a (V - W) → Frm B h h' a (a + 2) → Q none h') : PW B X 53 0 [some (.ref a), some (.ref b), none, none, none, none, none] [] h Q := by
  have v := n1.ok
  obtain ⟨f, n, h1, h2, hl, hn, hr, hv⟩ := id n1
  obtain ⟨g, m, g1, g2, gl, gn, gr, gv⟩ := n2
  subst hv; subst gv
  have key := ns_self h1 h2
  have hmn : m ≤ n := sz_of gl gr (Nat.lt_of_le_of_lt hb (nv_lt (fun i hi => (hl i hi).2)))
  have w : PW B X 53 0 [some (.ref a), some (.ref b), none, none, none, none, none] [] (nset B h a f (nI n)) Q := by
    refine s_nsub v g1 g2 (by omega) hl hn gl gn hmn hb (fun f' n' q1 q2 q3 q4 => ?_)
    obtain ⟨z1, z2⟩ := n1.set q1 q2 q3 q4
    exact hQ _ z1 z2
  rw [key] at w
  exact w
theorem c_ndiv {m : Nat} (n1 : NatV B h a V) (hm0 : 0 < m) (hm : m < 1000000000) (hQ : ∀ h', NatV B h' a (V / m) → Frm B h h' a (a + 2) → Q none h') : PW B X 55 0 [some (.ref a), some (.long (lN m)), none, none, none, none, none, none] [] h Q := by
  have v := n1.ok
  obtain ⟨f, n, h1, h2, hl, hn, hr, hv⟩ := id n1
  subst hv
  rw [← ns_self h1 h2]
  refine s_ndiv v hl hn hm0 hm (fun f' n' q1 q2 q3 q4 => ?_)
  obtain ⟨z1, z2⟩ := n1.set q1 q2 q3 q4
  exact hQ _ z1 z2
theorem c_nprod (n1 : NatV B h a U) (n2 : NatV B h b V) (n3 : NatV B h c W) (d : b + 2 ≤ a ∨ a + 2 ≤ b) (d2 : c + 2 ≤ a ∨ a + 2 ≤ c) {k1 k2 : Nat} (hb : V < 1000000000 ^ k1) (hc : W < 1000000000 ^ k2) (hk : k1 + k2 ≤ 12) (hQ : ∀ h', NatV B h' a (V * W) → Frm B h h' a (a + 2) → Q none h') :
    PW B X 58 0 [some (.ref a), some (.ref b), some (.ref c), none, none, none, none, none, none] [] h Q := by
  have v := n1.ok
  obtain ⟨f, n, h1, h2, hl, hn, hr, hv⟩ := id n1
  obtain ⟨g, m, g1, g2, gl, gn, gr, gv⟩ := n2
  obtain ⟨u, s, u1, u2, ul, un, ur, uv⟩ := n3
  subst gv; subst uv
  have key := ns_self h1 h2
  have t1 := sz_of gl gr hb
  have t2 := sz_of ul ur hc
  have w : PW B X 58 0 [some (.ref a), some (.ref b), some (.ref c), none, none, none, none, none, none] [] (nset B h a f (nI n)) Q := by
    refine s_nprod v g1 g2 u1 u2 (by omega) (by omega) gl ul (by omega) (fun f' n' q1 q2 q3 q4 => ?_)
    obtain ⟨z1, z2⟩ := n1.set q1 q2 q3 q4
    exact hQ _ z1 z2
  rw [key] at w
  exact w
theorem c_nrem {m : Nat} (n1 : NatV B h a V) (hm0 : 0 < m) (hm : m < 1000000000) : PW B X 54 0 [some (.ref a), some (.long (lN m)), none, none, none, none] [] h Q ↔ Q (some (.long (lN (V % m)))) h := by
  obtain ⟨f, n, h1, h2, hl, hn, hr, hv⟩ := n1
  subst hv
  exact s_nrem h1 h2 hl hn hm0 hm
theorem c_ncmp (n1 : NatV B h a V) (n2 : NatV B h b W) : PW B X 50 0 [some (.ref a), some (.ref b), none] [] h Q ↔ Q (some (.int (ci V W))) h := by
  obtain ⟨f, n, h1, h2, hl, hn, hr, hv⟩ := n1
  obtain ⟨g, m, g1, g2, gl, gn, gr, gv⟩ := n2
  subst hv; subst gv
  exact s_ncompare h1 h2 g1 g2 hl hn hr gl gn gr
theorem c_n18 {j : Nat} (n1 : NatV B h a V) (hj : j < 2 ^ 31) : PW B X 62 0 [some (.ref a), some (.int (nI j))] [] h Q ↔ Q (some (.long (lN (d18 V j)))) h := by
  obtain ⟨f, n, h1, h2, hl, hn, hr, hv⟩ := n1
  subst hv
  exact s_eighteen h1 h2 hl hn hj
theorem c_gcd {x y : Nat} (hx : x < 2 ^ 45) (hy : y < 2 ^ 63) : PW B X 38 0 [some (.long (lN x)), none, some (.long (lN y)), none, none, none, none, none, none, none, none] [] h Q ↔ Q (some (.long (lN (Nat.gcd x y)))) h := by
  have z0 : ∀ q, q < 2 ^ 63 → (lN q = 0 ↔ q = 0) := fun q hq => pk_lEQ hq (by decide : 0 < 2 ^ 63)
  have fin : ∀ i p w9 w10, i < 100 → (PW B X 38 9 [some (.long (lN x)), none, some (.long (lN y)), none, some (.long (lN p)), none, some (.long (lN 0)), none, some (.int (nI i)), w9, w10] [] h Q ↔ Q (some (.long (lN (Nat.gcd p 0)))) h) := by
    intro i p w9 w10 hi
    have e2 : ¬ (100 : Int32) ≤ nI i := nI_ge (b := 100) hi (by decide)
    have e3 : lN 0 = (0 : Int64) := rfl
    simp only [u_38_9, u_38_11, u_38_13, u_38_16, u_38_18, u_38_19, u_38_20, u_38_44, u_38_46, pm_O_some, pm_w_nil, pm_w_i, pm_w_l, pm_w_r, pm_w_n, pm_c_n, pm_c_i, pm_c_l, pm_c_r, pm_c_u, Nat.reduceAdd, Nat.reduceLeDiff, true_and, Option.toList_some, Option.toList_none, List.cons_append, List.nil_append, if_neg e2, lg_cmp_eq, e3, if_true, Nat.gcd_zero_right]
  have stp : ∀ i p q w9 w10, i < 100 → 0 < q → p < 2 ^ 63 → q < 2 ^ 63 → (PW B X 38 9 [some (.long (lN x)), none, some (.long (lN y)), none, some (.long (lN p)), none, some (.long (lN q)), none, some (.int (nI i)), w9, w10] [] h Q ↔
      PW B X 38 9 [some (.long (lN x)), none, some (.long (lN y)), none, some (.long (lN q)), none, some (.long (lN (p % q))), none, some (.int (nI (i + 1))), some (.long (lN (p % q))), none] [] h Q) := by
    intro i p q w9 w10 hi hq0 hp hq
    have e2 : ¬ (100 : Int32) ≤ nI i := nI_ge (b := 100) hi (by decide)
    have e3 : ¬ lN q = 0 := fun z => by have := (z0 q hq).mp z; omega
    rw [u_38_9]
    simp only [u_38_11, u_38_13, u_38_16, u_38_18, u_38_19, u_38_20, u_38_23, u_38_25, u_38_27, u_38_28, u_38_30, u_38_32, u_38_34, u_38_36, u_38_38, u_38_41, pm_O_some, pm_w_nil, pm_w_i, pm_w_l, pm_w_r, pm_w_n, pm_c_n, pm_c_i, pm_c_l, pm_c_r, pm_c_u, Nat.reduceAdd, Nat.reduceLeDiff, true_and, Option.toList_some, Option.toList_none, List.cons_append, List.nil_append, if_neg e2, lg_cmp_eq, e3, if_false, not_false_eq_true, nI_1, pk_lRem hp hq0 hq]
  have loop : ∀ k i p q w9 w10, p < 2 ^ 63 → q < 2 ^ k → k ≤ 45 → i + 2 * k + 1 ≤ 100 →
      (PW B X 38 9 [some (.long (lN x)), none, some (.long (lN y)), none, some (.long (lN p)), none, some (.long (lN q)), none, some (.int (nI i)), w9, w10] [] h Q ↔ Q (some (.long (lN (Nat.gcd p q)))) h) := by
    intro k
    induction k with
    | zero =>
      intro i p q w9 w10 hp hq hk hi
      obtain rfl : q = 0 := by omega
      exact fin i p w9 w10 (by omega)
    | succ k ih =>
      intro i p q w9 w10 hp hq hk hi
      have hq45 : q < 2 ^ 45 := Nat.lt_of_lt_of_le hq (Nat.pow_le_pow_right (by decide) hk)
      rcases Nat.eq_zero_or_pos q with z | z
      · subst z
        exact fin i p w9 w10 (by omega)
      · have hr := Nat.mod_lt p z
        rw [stp i p q w9 w10 (by omega) z hp (by omega), Nat.gcd_comm p q, Nat.gcd_rec q p, Nat.gcd_comm]
        rcases Nat.eq_zero_or_pos (p % q) with z2 | z2
        · rw [z2]
          exact fin (i + 1) q _ _ (by omega)
        · have hr2 := Nat.mod_lt q z2
          rw [stp (i + 1) q (p % q) _ _ (by omega) z2 (by omega) (by omega), Nat.gcd_comm q (p % q), Nat.gcd_rec (p % q) q, Nat.gcd_comm]
          refine ih (i + 1 + 1) (p % q) (q % (p % q)) _ _ (by omega) ?_ (by omega) (by omega)
          have t : q % (p % q) + (p % q) ≤ q := by
            have := Nat.div_add_mod q (p % q)
            have t2 := Nat.div_pos (Nat.le_of_lt hr) z2
            have t3 := Nat.le_mul_of_pos_right (p % q) t2
            omega
          rw [Nat.pow_succ] at hq
          omega
  simp only [u_38_0, u_38_1, u_38_3, u_38_4, u_38_6, u_38_7, pm_O_some, pm_w_nil, pm_w_i, pm_w_l, pm_w_r, pm_w_n, pm_c_n, pm_c_i, pm_c_l, pm_c_r, pm_c_u, Nat.reduceAdd, Nat.reduceLeDiff, true_and, Option.toList_some, Option.toList_none, List.cons_append, List.nil_append]
  by_cases hy2 : y < 2 ^ 45
  · exact loop 45 0 x y _ _ (by omega) hy2 (Nat.le_refl _) (by omega)
  · have e := stp 0 x y none none (by omega) (by omega) (by omega) hy
    rw [Nat.mod_eq_of_lt (show x < y by omega)] at e
    refine (e.trans ?_)
    rw [Nat.gcd_comm x y]
    exact loop 45 1 y x _ _ hy hx (Nat.le_refl _) (by omega)
end NG

/-! THE REFERENCE'S RANK: rows laid, rows cleaned. -/
def rwh (B : Nat) (h : pm_H) (m : Nat) (f : Nat → Int64) : pm_H := pm_set B h (m + 23) (.inl (1, 80, .inr (.inl f)))
theorem ix_80 {k : Nat} (h : k < 80) : pm_ix (nI k) 80 = true := pm_ix_of h (by decide)
theorem x4 {r k : Nat} : (4 : Int32) * nI r + nI k = nI (4 * r + k) := by
  show nI 4 * nI r + nI k = _
  rw [nI_mul, nI_add]
theorem x4r {r : Nat} : (4 : Int32) * nI r = nI (4 * r) := by
  show nI 4 * nI r = _
  rw [nI_mul]
theorem updL_s {f : Nat → Int64} {k : Nat} {z : Int64} : vp_updL f k z k = z := if_pos rfl
theorem updL_n {f : Nat → Int64} {k i : Nat} {z : Int64} (h : ¬ i = k) : vp_updL f k z i = f i := if_neg h
def g4 (V : Nat → Int) : Nat → Nat
  | 0 => 0
  | k + 1 => Nat.gcd (g4 V k) (V k).natAbs
theorem g4_dvd {V : Nat → Int} {j : Nat} : ∀ {k : Nat}, j < k → g4 V k ∣ (V j).natAbs
  | 0, h => by omega
  | k + 1, h => by
    rw [g4]
    by_cases c : j = k
    · rw [c]
      exact Nat.gcd_dvd_right _ _
    · exact Nat.dvd_trans (Nat.gcd_dvd_left _ _) (g4_dvd (by omega))
theorem g4_b {V : Nat → Int} {M : Nat} : ∀ {k : Nat}, (∀ j, j < k → (V j).natAbs ≤ M) → g4 V k ≤ M
  | 0, _ => Nat.zero_le _
  | k + 1, h => by
    rw [g4]
    have h1 := g4_b (V := V) (M := M) (k := k) (fun j hj => h j (by omega))
    have h2 := h k (by omega)
    rcases Nat.eq_zero_or_pos (g4 V k) with z | z
    · rw [z, Nat.gcd_zero_left]
      exact h2
    · exact Nat.le_trans (Nat.le_of_dvd z (Nat.gcd_dvd_left _ _)) h1
theorem l_divI {w : Int} {g : Nat} (h1 : -2 ^ 62 < (g : Int) * w) (h2 : (g : Int) * w < 2 ^ 62) (h3 : 0 < g) (h4 : g < 2 ^ 62) : lI ((g : Int) * w) / lN g = lI w := by
  have ne : lN g ≠ -1 := by
    intro c
    have := congrArg Int64.toInt c
    rw [pk_lT (by omega)] at this
    change _ = (-1 : Int) at this
    omega
  have hw : w.natAbs ≤ ((g : Int) * w).natAbs := by
    rw [Int.natAbs_mul, Int.natAbs_natCast]
    exact Nat.le_mul_of_pos_left _ h3
  apply Int64.toInt_inj.mp
  rw [Int64.toInt_div_of_ne_right _ _ ne, lI_T (by omega) (by omega), pk_lT (by omega), lI_T (by omega) (by omega), Int.mul_tdiv_cancel_left _ (by omega)]
section RWS
variable {B : Nat} {X : pm_X} {h : pm_H} {Q : Option Value → pm_H → Prop} {m r k j : Nat} {f g f0 : Nat → Int64} {x0 x7 x8 x9 x10 x13 x19 x21 x24 x25 x31 x32 : Int32}
theorem rw_at (v : pm_v B h (m + 23)) : pm_at B (rwh B h m f) (m + 23) = some (.inl (1, 80, .inr (.inl f))) := pm_at_self v
theorem rw_set : pm_set B (rwh B h m f) (m + 23) (.inl (1, 80, .inr (.inl g))) = rwh B h m g := pm_set_set
theorem rw_ne (v : pm_v B h (m + 23)) {q : Nat} (hq : ¬ q = m + 23) : pm_at B (rwh B h m f) q = pm_at B h q := pm_at_ne v hq
theorem rw_c (v : pm_v B h (m + 23)) (c : MC B h m x0 x7 x8 x9 x10 x13 x19 x21 x24 x25 x31 x32) : MC B (rwh B h m f) m x0 x7 x8 x9 x10 x13 x19 x21 x24 x25 x31 x32 := (rw_ne v (by omega)).trans c
theorem z_lay {a b c d : Int64} (v : pm_v B h (m + 23)) (cc : MC B h m x0 x7 x8 x9 x10 x13 x19 x21 x24 x25 x31 x32) (hr : r < 20) : PW B X 127 0 [some (.ref m), some (.int (nI r)), some (.long a), none, some (.long b), none, some (.long c), none, some (.long d), none] [] (rwh B h m f) Q ↔ Q none (rwh B h m (vp_updL (vp_updL (vp_updL (vp_updL f (4 * r) a) (4 * r + 1) b) (4 * r + 2) c) (4 * r + 3) d)) := by
  have e2 : nI (4 * r) + 2 = nI (4 * r + 2) := nI_add _ 2
  have e3 : nI (4 * r) + 3 = nI (4 * r + 3) := nI_add _ 3
  simp only [u_127_0, u_127_0n, u_127_1, u_127_4, u_127_5, u_127_6, u_127_7, u_127_8, u_127_9, u_127_9n, u_127_10, u_127_13, u_127_14, u_127_15, u_127_16, u_127_17, u_127_18, u_127_20, u_127_21, u_127_21n, u_127_22, u_127_25, u_127_26, u_127_27, u_127_28, u_127_29, u_127_30, u_127_32, u_127_33, u_127_33n, u_127_34, u_127_37, u_127_38, u_127_39, u_127_40, u_127_41, u_127_42, u_127_44, u_127_45, pm_O_some, pm_w_nil, pm_w_i, pm_w_l, pm_w_r, pm_w_n, pm_c_n, pm_c_i, pm_c_l, pm_c_r, pm_c_u, Nat.reduceAdd, Nat.reduceLeDiff, true_and, Option.toList_some, Option.toList_none, List.cons_append, List.nil_append, (rw_c v cc).g34, rw_at v, x4r, nI_1, e2, e3, st_l (ix_80 (show 4 * r < 80 by omega)), st_l (ix_80 (show 4 * r + 1 < 80 by omega)), st_l (ix_80 (show 4 * r + 2 < 80 by omega)), st_l (ix_80 (show 4 * r + 3 < 80 by omega)), nI_clamp (show 4 * r < 2 ^ 31 by omega), nI_clamp (show 4 * r + 1 < 2 ^ 31 by omega), nI_clamp (show 4 * r + 2 < 2 ^ 31 by omega), nI_clamp (show 4 * r + 3 < 2 ^ 31 by omega), rw_set]
theorem z_clean {V : Nat → Int} (v : pm_v B h (m + 23)) (cc : MC B h m x0 x7 x8 x9 x10 x13 x19 x21 x24 x25 x31 x32) (hr : r < 20) (hV : ∀ j, j < 4 → f (4 * r + j) = lI (V j)) (hB : ∀ j, j < 4 → (V j).natAbs < 2 ^ 61)
    (hQ : ∀ (f' : Nat → Int64) (w : Nat → Int) (g : Nat), (∀ q, ¬ (4 * r ≤ q ∧ q < 4 * r + 4) → f' q = f q) → (∀ j, j < 4 → f' (4 * r + j) = lI (w j)) → 1 ≤ g → (∀ j, j < 4 → V j = (g : Int) * w j) → (V 0 = 0 ∧ V 1 = 0 ∧ V 2 = 0 → -1 ≤ w 3 ∧ w 3 ≤ 1) → Q none (rwh B h m f')) :
    PW B X 128 0 [some (.ref m), some (.int (nI r)), none, none, none] [] (rwh B h m f) Q := by
  have hGb : g4 V 4 < 2 ^ 61 := by
    have := g4_b (V := V) (M := 2 ^ 61 - 1) (k := 4) (fun j hj => by have := hB j hj; omega)
    omega
  have second : PW B X 128 36 [some (.ref m), some (.int (nI r)), some (.long (lN (g4 V 4))), none, some (.int (nI 0))] [] (rwh B h m f) Q := by
    by_cases gz : g4 V 4 = 0
    · have e1 : ¬ (4 : Int32) ≤ nI 0 := by decide
      have e2 : lN (g4 V 4) ≤ 0 := (l_le0 (by omega)).mpr gz
      have hz : ∀ j, j < 4 → V j = 0 := fun j hj => by
        have := g4_dvd (V := V) hj
        rw [gz] at this
        have := Nat.eq_zero_of_zero_dvd this
        omega
      simp only [u_128_36, u_128_38, u_128_39, u_128_42, u_128_43, u_128_44, u_128_45, u_128_69, pm_O_some, pm_w_nil, pm_w_i, pm_w_l, pm_w_r, pm_w_n, pm_c_n, pm_c_i, pm_c_l, pm_c_r, pm_c_u, Nat.reduceAdd, Nat.reduceLeDiff, true_and, Option.toList_some, Option.toList_none, List.cons_append, List.nil_append, if_neg e1, lg_cmp_le, if_pos e2]
      exact hQ f V 1 (fun _ _ => rfl) hV (Nat.le_refl _) (fun j hj => by rw [hz j hj]; rfl) (fun _ => by rw [hz 3 (by omega)]; decide)
    · have e2 : ¬ lN (g4 V 4) ≤ 0 := fun z => gz ((l_le0 (by omega)).mp z)
      have hw : ∃ w : Nat → Int, ∀ j, j < 4 → V j = (g4 V 4 : Int) * w j := by
        refine ⟨fun j => V j / (g4 V 4 : Int), fun j hj => ?_⟩
        exact (Int.mul_ediv_cancel' (Int.ofNat_dvd_left.mpr (g4_dvd hj))).symm
      obtain ⟨w, hw⟩ := hw
      have hfl : V 0 = 0 ∧ V 1 = 0 ∧ V 2 = 0 → -1 ≤ w 3 ∧ w 3 ≤ 1 := by
        intro z
        have e3 : g4 V 4 = (V 3).natAbs := by
          rw [g4, g4, g4, g4, g4, z.1, z.2.1, z.2.2]
          simp
        have h3 := hw 3 (by omega)
        have : (V 3).natAbs = g4 V 4 * (w 3).natAbs := by
          have := congrArg Int.natAbs h3
          rw [Int.natAbs_mul, Int.natAbs_natCast] at this
          exact this
        rw [← e3] at this
        have : (w 3).natAbs = 1 := Nat.eq_of_mul_eq_mul_left (show 0 < g4 V 4 by omega) (by omega)
        omega
      have loop : ∀ d k fc, k + d = 4 → (∀ q, ¬ (4 * r ≤ q ∧ q < 4 * r + 4) → fc q = f q) → (∀ j, j < k → fc (4 * r + j) = lI (w j)) → (∀ j, k ≤ j → j < 4 → fc (4 * r + j) = lI (V j)) → PW B X 128 36 [some (.ref m), some (.int (nI r)), some (.long (lN (g4 V 4))), none, some (.int (nI k))] [] (rwh B h m fc) Q := by
        intro d
        induction d with
        | zero =>
          intro k fc hk i1 i2 i3
          obtain rfl : k = 4 := by omega
          have e1 : (4 : Int32) ≤ nI 4 := by decide
          simp only [u_128_36, u_128_38, u_128_39, u_128_69, pm_O_some, pm_w_nil, pm_w_i, pm_w_l, pm_w_r, pm_w_n, pm_c_n, pm_c_i, pm_c_l, pm_c_r, pm_c_u, Nat.reduceAdd, Nat.reduceLeDiff, true_and, Option.toList_some, Option.toList_none, List.cons_append, List.nil_append, if_pos e1]
          exact hQ fc w (g4 V 4) i1 i2 (by omega) hw hfl
        | succ d ih =>
          intro k fc hk i1 i2 i3
          have e1 : ¬ (4 : Int32) ≤ nI k := nI_ge (b := 4) (by omega) (by decide)
          have ez : ¬ lN (g4 V 4) = 0 := l_ne0 (by omega) (by omega)
          have hb := hB k (by omega)
          have t : fc (4 * r + k) / lN (g4 V 4) = lI (w k) := by
            rw [i3 k (Nat.le_refl _) (by omega), hw k (by omega)]
            rw [hw k (by omega)] at hb
            exact l_divI (by omega) (by omega) (by omega) (by omega)
          rw [u_128_36]
          simp only [u_128_38, u_128_39, u_128_42, u_128_43, u_128_44, u_128_45, u_128_48, u_128_48n, u_128_49, u_128_52, u_128_53, u_128_54, u_128_55, u_128_57, u_128_58, u_128_59, u_128_60, u_128_61, u_128_62, u_128_63, u_128_66, pm_O_some, pm_w_nil, pm_w_i, pm_w_l, pm_w_r, pm_w_n, pm_c_n, pm_c_i, pm_c_l, pm_c_r, pm_c_u, Nat.reduceAdd, Nat.reduceLeDiff, true_and, Option.toList_some, Option.toList_none, List.cons_append, List.nil_append, if_neg e1, lg_cmp_le, if_neg e2, (rw_c v cc).g34, rw_at v, x4, ld_l (ix_80 (show 4 * r + k < 80 by omega)), st_l (ix_80 (show 4 * r + k < 80 by omega)), nI_clamp (show 4 * r + k < 2 ^ 31 by omega), ez, not_false_eq_true, t, rw_set, nI_1]
          refine ih (k + 1) _ (by omega) (fun q hq => by rw [updL_n (by omega)]; exact i1 q hq) (fun j hj => ?_) (fun j h1 h2 => by rw [updL_n (by omega)]; exact i3 j (by omega) h2)
          by_cases c : j = k
          · rw [c, updL_s]
          · rw [updL_n (by omega)]
            exact i2 j (by omega)
      exact loop 4 0 f (by omega) (fun _ _ => rfl) (fun j hj => by omega) (fun j _ hj => hV j hj)
  have first : ∀ d k, k + d = 4 → PW B X 128 5 [some (.ref m), some (.int (nI r)), some (.long (lN (g4 V k))), none, some (.int (nI k))] [] (rwh B h m f) Q := by
    intro d
    induction d with
    | zero =>
      intro k hk
      obtain rfl : k = 4 := by omega
      have e1 : (4 : Int32) ≤ nI 4 := by decide
      simp only [u_128_5, u_128_7, u_128_8, u_128_33, u_128_34, pm_O_some, pm_w_nil, pm_w_i, pm_w_l, pm_w_r, pm_w_n, pm_c_n, pm_c_i, pm_c_l, pm_c_r, pm_c_u, Nat.reduceAdd, Nat.reduceLeDiff, true_and, Option.toList_some, Option.toList_none, List.cons_append, List.nil_append, if_pos e1]
      exact second
    | succ d ih =>
      intro k hk
      have e1 : ¬ (4 : Int32) ≤ nI k := nI_ge (b := 4) (by omega) (by decide)
      have hb := hB k (by omega)
      have hg := g4_b (V := V) (M := 2 ^ 61 - 1) (k := k) (fun j hj => by have := hB j (by omega); omega)
      rw [u_128_5]
      simp only [u_128_7, u_128_8, u_128_11, u_128_12, u_128_12n, u_128_13, u_128_16, u_128_17, u_128_18, u_128_19, u_128_21, u_128_22, u_128_23, pm_O_some, pm_w_nil, pm_w_i, pm_w_l, pm_w_r, pm_w_n, pm_c_n, pm_c_i, pm_c_l, pm_c_r, pm_c_u, Nat.reduceAdd, Nat.reduceLeDiff, true_and, Option.toList_some, Option.toList_none, List.cons_append, List.nil_append, if_neg e1, (rw_c v cc).g34, rw_at v, x4, ld_l (ix_80 (show 4 * r + k < 80 by omega)), nI_clamp (show 4 * r + k < 2 ^ 31 by omega), hV k (by omega)]
      rw [← lI_N, c_divisor (by omega) (by omega), Int.natAbs_natCast]
      simp only [u_128_26, u_128_27, u_128_30, pm_O_some, pm_w_nil, pm_w_i, pm_w_l, pm_w_r, pm_w_n, pm_c_n, pm_c_i, pm_c_l, pm_c_r, pm_c_u, Nat.reduceAdd, Nat.reduceLeDiff, true_and, Option.toList_some, Option.toList_none, List.cons_append, List.nil_append, nI_1]
      exact ih (k + 1) (by omega)
  simp only [u_128_0, u_128_1, u_128_2, u_128_3, pm_O_some, pm_w_nil, pm_w_i, pm_w_l, pm_w_r, pm_w_n, pm_c_n, pm_c_i, pm_c_l, pm_c_r, pm_c_u, Nat.reduceAdd, Nat.reduceLeDiff, true_and, Option.toList_some, Option.toList_none, List.cons_append, List.nil_append]
  exact first 4 0 (by omega)
end RWS

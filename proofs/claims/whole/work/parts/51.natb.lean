/-! NATURALS, b: what the limbs tell; multiply, put, copy. -/
def dg (f : Nat → Int64) (i : Nat) : Nat := (f i).toInt.toNat
/-- the number that n limbs tell -/
def nv (f : Nat → Int64) : Nat → Nat
  | 0 => 0
  | n + 1 => nv f n + dg f n * 1000000000 ^ n
def lok (f : Nat → Int64) (n : Nat) : Prop := ∀ i, i < n → f i = lN (dg f i) ∧ dg f i < 1000000000
theorem dg_of {f : Nat → Int64} {i d : Nat} (h : f i = lN d) (hd : d < 2 ^ 63) : dg f i = d := by
  unfold dg
  rw [h, pk_lT hd]
  rfl
theorem dg_us {f : Nat → Int64} {i d : Nat} (hd : d < 2 ^ 63) : dg (vp_updL f i (lN d)) i = d := dg_of (by simp [vp_updL]) hd
theorem dg_un {f : Nat → Int64} {i k : Nat} {z : Int64} (h : i ≠ k) : dg (vp_updL f k z) i = dg f i := by
  unfold dg
  rw [pk_uLn h]
theorem nv_congr {f g : Nat → Int64} : ∀ {n : Nat}, (∀ i, i < n → dg f i = dg g i) → nv f n = nv g n
  | 0, _ => rfl
  | n + 1, h => by rw [nv, nv, nv_congr (fun i hi => h i (by omega)), h n (by omega)]
theorem nv_lt {f : Nat → Int64} : ∀ {n : Nat}, (∀ i, i < n → dg f i < 1000000000) → nv f n < 1000000000 ^ n
  | 0, _ => by simp [nv]
  | n + 1, h => by
    have h1 := nv_lt (f := f) (n := n) (fun i hi => h i (by omega))
    have h2 := h n (by omega)
    rw [nv, Nat.pow_succ]
    have : dg f n * 1000000000 ^ n ≤ (1000000000 - 1) * 1000000000 ^ n := Nat.mul_le_mul_right _ (by omega)
    have e : 1000000000 ^ n * 1000000000 = (1000000000 - 1) * 1000000000 ^ n + 1000000000 ^ n := by
      rw [Nat.mul_comm]
      omega
    omega
theorem lok_of {f : Nat → Int64} {n k d : Nat} (h : ∀ i, i < n → i ≠ k → f i = lN (dg f i) ∧ dg f i < 1000000000) (hd : d < 1000000000) : lok (vp_updL f k (lN d)) n := by
  intro i hi
  by_cases hk : i = k
  · subst hk
    rw [pk_uLs, dg_us (by omega)]
    exact ⟨rfl, hd⟩
  · rw [pk_uLn hk, dg_un hk]
    exact h i hi hk
theorem lok_up {f : Nat → Int64} {n k d : Nat} (h : lok f n) (hd : d < 1000000000) : lok (vp_updL f k (lN d)) n := lok_of (fun i hi _ => h i hi) hd
theorem lok_push {f : Nat → Int64} {n d : Nat} (h : lok f n) (hd : d < 1000000000) : lok (vp_updL f n (lN d)) (n + 1) := lok_of (fun i hi hk => h i (by omega)) hd
theorem nv_up {f : Nat → Int64} {n k : Nat} {z : Int64} (h : n ≤ k) : nv (vp_updL f k z) n = nv f n := nv_congr (fun i hi => dg_un (by omega))
/-- no limb too many -/
def nrm (f : Nat → Int64) (n : Nat) : Prop := tl f n = n
theorem tl_le (f : Nat → Int64) : ∀ n, tl f n ≤ n
  | 0 => Nat.le_refl _
  | n + 1 => by
    unfold tl
    split
    · exact Nat.le_succ_of_le (tl_le f n)
    · exact Nat.le_refl _
theorem tl_tl (f : Nat → Int64) : ∀ n, tl f (tl f n) = tl f n
  | 0 => rfl
  | n + 1 => by
    by_cases h : f n = 0
    · rw [show tl f (n + 1) = tl f n by simp [tl, h]]
      exact tl_tl f n
    · rw [show tl f (n + 1) = n + 1 by simp [tl, h], show tl f (n + 1) = n + 1 by simp [tl, h]]
theorem nv_tl (f : Nat → Int64) : ∀ n, nv f (tl f n) = nv f n
  | 0 => rfl
  | n + 1 => by
    by_cases h : f n = 0
    · rw [show tl f (n + 1) = tl f n by simp [tl, h], nv_tl f n, nv, show dg f n = 0 by simp [dg, h]]
      simp
    · rw [show tl f (n + 1) = n + 1 by simp [tl, h]]
theorem lok_mono {f : Nat → Int64} {m n : Nat} (h : lok f n) (hm : m ≤ n) : lok f m := fun i hi => h i (by omega)
theorem lB : (1000000000 : Int64) = lN 1000000000 := rfl
theorem lB0 : ¬ (1000000000 : Int64) = 0 := by decide
theorem l_le0 {c : Nat} (hc : c < 2 ^ 63) : lN c ≤ 0 ↔ c = 0 := by
  rw [show (0 : Int64) = lN 0 from rfl, pk_lLE hc (by decide)]
  omega
section NT
variable {B : Nat} {X : pm_X} {h : pm_H} {Q : Option Value → pm_H → Prop} {a n k q : Nat} {f g : Nat → Int64} {x y : Int32}
theorem s_multiply {m : Nat} (v : nok B h a) (hl : lok f n) (hn : n ≤ 12) (hm : m < 1000000000) (hb : nv f n * m < 1000000000 ^ 12) (hQ : ∀ f' n', lok f' n' → n' ≤ 12 → nrm f' n' → nv f' n' = nv f n * m → Q none (nset B h a f' (nI n'))) :
    PW B X 44 0 [some (.ref a), some (.long (lN m)), none, none, none, none, none, none] [] (nset B h a f (nI n)) Q := by
  have fin : ∀ f' n', lok f' n' → n' ≤ 12 → nv f' n' = nv f n * m → ∀ lv : pm_L, lv = [some (.ref a), some (.long (lN m)), none, none, none, none, none, none] ∨ True → ∀ w3 w4 w5 w6 w7, PW B X 44 64 [some (.ref a), some (.long (lN m)), none, w3, w4, w5, w6, w7] [] (nset B h a f' (nI n')) Q := by
    intro f' n' h1 h2 h3 lv _ w3 w4 w5 w6 w7
    simp only [u_44_64, u_44_64n, u_44_65, u_44_68, pm_O_some, pm_w_nil, pm_w_i, pm_w_l, pm_w_r, pm_w_n, pm_c_n, pm_c_i, pm_c_l, pm_c_r, pm_c_u, Nat.reduceAdd, Nat.reduceLeDiff, true_and, Option.toList_some, Option.toList_none, List.cons_append, List.nil_append, pm_io_of (ns_at0 v), s_trim v h2]
    exact hQ f' _ (lok_mono h1 (tl_le _ _)) (Nat.le_trans (tl_le _ _) h2) (tl_tl _ _) (by rw [nv_tl, h3])
  have loop : ∀ r i c fi w6 w7, i + r = n → c < 1000000000 → lok fi n → (∀ j, i ≤ j → j < n → fi j = f j) → nv fi i + c * 1000000000 ^ i = nv f i * m →
      PW B X 44 5 [some (.ref a), some (.long (lN m)), none, some (.long (lN c)), none, some (.int (nI i)), w6, w7] [] (nset B h a fi (nI n)) Q := by
    intro r
    induction r with
    | zero =>
      intro i c fi w6 w7 hi hc hfi hs hv
      obtain rfl : i = n := by omega
      have e2 : nI i ≤ nI i := nI_le (Nat.le_refl _) (by omega)
      simp only [u_44_5, u_44_7, u_44_7n, u_44_8, u_44_11, u_44_53, u_44_54, u_44_55, u_44_56, u_44_59, u_44_59n, u_44_60, u_44_61, pm_O_some, pm_w_nil, pm_w_i, pm_w_l, pm_w_r, pm_w_n, pm_c_n, pm_c_i, pm_c_l, pm_c_r, pm_c_u, Nat.reduceAdd, Nat.reduceLeDiff, true_and, Option.toList_some, Option.toList_none, List.cons_append, List.nil_append, ns_at0 v, gf_5_1, if_pos e2, lg_cmp_le, l_le0 (show c < 2 ^ 63 by omega)]
      by_cases hc0 : c = 0
      · rw [if_pos hc0]
        refine fin fi i hfi hn ?_ [] (Or.inr trivial) _ _ _ _ _
        rw [← hv, hc0]; simp
      · rw [if_neg hc0]
        have hlt : i < 12 := by
          rcases Nat.lt_or_ge i 12 with z | z
          · exact z
          · obtain rfl : i = 12 := by omega
            have : 1000000000 ^ 12 ≤ c * 1000000000 ^ 12 := Nat.le_mul_of_pos_left _ (by omega)
            omega
        simp only [pm_io_of (ns_at0 v), s_append v hlt, pm_O_some, pm_w_nil, pm_w_i, pm_w_l, pm_w_r, pm_w_n, pm_c_n, pm_c_i, pm_c_l, pm_c_r, pm_c_u, Nat.reduceAdd, Nat.reduceLeDiff, true_and, Option.toList_some, Option.toList_none, List.cons_append, List.nil_append]
        refine fin _ (i + 1) (lok_push hfi hc) hlt ?_ [] (Or.inr trivial) _ _ _ _ _
        rw [nv, nv_up (Nat.le_refl _), dg_us (by omega), hv]
    | succ r ih =>
      intro i c fi w6 w7 hi hc hfi hs hv
      have hin : i < n := by omega
      have e2 : ¬ nI n ≤ nI i := nI_ge hin (by omega)
      have hd := hfi i hin
      have hfd : fi i = f i := hs i (Nat.le_refl _) hin
      have hdm : dg fi i * m ≤ (1000000000 - 1) * (1000000000 - 1) := Nat.mul_le_mul (by omega) (by omega)
      have hsm : dg fi i * m + c < 2 ^ 63 := by omega
      rw [u_44_5]
      simp only [u_44_7, u_44_7n, u_44_8, u_44_11, u_44_14, u_44_14n, u_44_15, u_44_18, u_44_20, u_44_21, u_44_22, u_44_23, u_44_24, u_44_25, u_44_27, u_44_27n, u_44_28, u_44_31, u_44_33, u_44_35, u_44_38, u_44_39, u_44_40, u_44_42, u_44_45, u_44_46, u_44_47, u_44_50, pm_O_some, pm_w_nil, pm_w_i, pm_w_l, pm_w_r, pm_w_n, pm_c_n, pm_c_i, pm_c_l, pm_c_r, pm_c_u, Nat.reduceAdd, Nat.reduceLeDiff, true_and, Option.toList_some, Option.toList_none, List.cons_append, List.nil_append, ns_at0 v, ns_at1 v, ns_s1 v, gf_5_0, gf_5_1, if_neg e2, ld_l (pm_ix_of (show i < 12 by omega) (by decide)), st_l (pm_ix_of (show i < 12 by omega) (by decide)), nI_clamp (show i < 2 ^ 31 by omega), lB0, not_false_eq_true]
      rw [hd.1, lN_mul, lN_add, lB, pk_lRem hsm (by decide) (by decide), pk_lDiv hsm (by decide) (by decide), nI_1]
      refine ih (i + 1) _ _ _ _ (by omega) ?_ (lok_up hfi (Nat.mod_lt _ (by decide))) (fun j h1 h2 => by rw [pk_uLn (by omega)]; exact hs j (by omega) h2) ?_
      · exact Nat.div_lt_of_lt_mul (by omega)
      · have e := Nat.div_add_mod (dg fi i * m + c) 1000000000
        have hdd : dg fi i = dg f i := by unfold dg; rw [hfd]
        rw [nv, nv_up (Nat.le_refl _), dg_us (Nat.lt_trans (Nat.mod_lt _ (by decide)) (by decide)), nv, Nat.add_mul, ← hv, ← hdd, Nat.pow_succ]
        generalize (dg fi i * m + c) / 1000000000 = qq at e ⊢
        generalize (dg fi i * m + c) % 1000000000 = rr at e ⊢
        have e3 : qq * (1000000000 ^ i * 1000000000) = (1000000000 * qq) * 1000000000 ^ i := by rw [Nat.mul_comm (1000000000 ^ i) 1000000000, ← Nat.mul_assoc, Nat.mul_comm qq 1000000000]
        have e4 : dg fi i * 1000000000 ^ i * m = (dg fi i * m) * 1000000000 ^ i := by rw [Nat.mul_right_comm]
        rw [e3, e4, Nat.add_assoc, ← Nat.add_mul, Nat.add_assoc, ← Nat.add_mul]
        congr 2
        omega
  simp only [u_44_0, u_44_1, u_44_2, u_44_3, pm_O_some, pm_w_nil, pm_w_i, pm_w_l, pm_w_r, pm_w_n, pm_c_n, pm_c_i, pm_c_l, pm_c_r, pm_c_u, Nat.reduceAdd, Nat.reduceLeDiff, true_and, Option.toList_some, Option.toList_none, List.cons_append, List.nil_append]
  exact loop n 0 0 f none none (by omega) (by decide) hl (fun _ _ _ => rfl) (by simp [nv])
end NT

/-! REGISTERS: trim, divide, under, reduce. -/
theorem nI_sgt {k : Nat} (h : k < 2 ^ 31) : (nI k ≤ 0) ↔ k = 0 := by
  rw [i_le, nI_toInt h]
  have : (0 : Int32).toInt = 0 := rfl
  omega
theorem nI_e0 {k : Nat} (h : k < 2 ^ 31) : (nI k = 0) ↔ k = 0 := nI_eq (b := 0) h (by decide)
theorem ix_168 {k : Nat} (h : k < 168) : pm_ix (nI k) 168 = true := pm_ix_of h (by decide)
theorem tl_zero {f : Nat → Int64} {j : Nat} : ∀ {n : Nat}, tl f n ≤ j → j < n → f j = 0
  | 0, _, h => by omega
  | n + 1, h1, h2 => by
    rw [tl] at h1
    by_cases c : f n = 0
    · rw [if_pos c] at h1
      by_cases e : j = n
      · rw [e]; exact c
      · exact tl_zero h1 (by omega)
    · rw [if_neg c] at h1
      omega
section DVS
variable {B : Nat} {X : pm_X} {h h' : pm_H} {Q : Option Value → pm_H → Prop} {m lo hi r n p q k : Nat} {fl f : Nat → Int64} {fu fs fw : Nat → Int32} {g : Rg} {R : Nat → Rg}
theorem RG.pw (n1 : RG fl fu fs fw r g) (hk : k < 168) : fw (168 * r + k) = nI (g.2.2 k) ∧ g.2.2 k < 2 ^ 20 := by
  obtain ⟨_, _, _, _, _, _, _, _, a8⟩ := n1
  exact a8 k hk
theorem RV.z {u V : Nat} (hv : RV f u V) : u = 0 ↔ V = 0 := by
  obtain ⟨_, v2, v3, v4, _⟩ := hv
  constructor
  · intro e
    subst e
    exact v4.symm
  · intro e
    rcases val_nrm v2 v3 with z | z
    · exact z
    · have : 0 < 1000000000 ^ (u - 1) := Nat.pow_pos (by decide)
      omega
theorem z_trim (n1 : NA B h m (fill fl (40 * r) 40 f) (upd fu r (nI n)) fs fw) (hr : r < 8) (hn : n ≤ 40) (hQ : ∀ h', NA B h' m (fill fl (40 * r) 40 f) (upd fu r (nI (tl f n))) (upd fs r (if tl f n = 0 then 0 else fs r)) fw → Frm B h h' (m + 18) (m + 22) → Q none h') : PW B X 116 0 [some (.ref m), some (.int (nI r))] [] h Q := by
  have loop : ∀ k hc, k ≤ 40 → tl f k = tl f n → NA B hc m (fill fl (40 * r) 40 f) (upd fu r (nI k)) fs fw → Frm B h hc (m + 18) (m + 22) → PW B X 116 0 [some (.ref m), some (.int (nI r))] [] hc Q := by
    intro k
    induction k with
    | zero =>
      intro hc hk ht m1 m2
      have a2 := m1.2.2.2.1
      have a3 := m1.2.2.2.2.1
      have e1 : nI 0 ≤ 0 := by decide
      have e2 : nI 0 = 0 := rfl
      simp only [u_116_0, u_116_0n, u_116_1, u_116_4, u_116_5, u_116_6, u_116_45, u_116_45n, u_116_46, u_116_49, u_116_50, u_116_50n, u_116_51, u_116_54, u_116_55, u_116_56, u_116_59, u_116_60, u_116_63, u_116_63n, u_116_64, u_116_67, u_116_68, u_116_69, u_116_70, pm_O_some, pm_w_nil, pm_w_i, pm_w_l, pm_w_r, pm_w_n, pm_c_n, pm_c_i, pm_c_l, pm_c_r, pm_c_u, Nat.reduceAdd, Nat.reduceLeDiff, true_and, Option.toList_some, Option.toList_none, List.cons_append, List.nil_append, m1.f28, m1.f29, a2, a3, ld_i (t := 0) (ix_8 hr) rfl, st_i (t := 0) (ix_8 hr) rfl, ty_0, nI_clamp (show r < 2 ^ 31 by omega), upd_s, if_pos e1, e2, not_true, if_false]
      obtain ⟨y1, y2⟩ := m1.sets (upd fs r 0)
      refine hQ _ ?_ (m2.trans y2)
      rw [← ht]
      exact y1
    | succ k ih =>
      intro hc hk ht m1 m2
      have a1 := m1.2.2.1
      have a2 := m1.2.2.2.1
      have a3 := m1.2.2.2.2.1
      have e1 : ¬ nI (k + 1) ≤ 0 := nI_nle (by omega) (by omega)
      have ep : nI (40 * r + (k + 1)) - 1 = nI (40 * r + k) := nI_pred (40 * r + k)
      have e2 : ¬ nI (k + 1) = 0 := mt (nI_e0 (by omega)).mp (by omega)
      rw [u_116_0]
      by_cases hz : f k = 0
      · simp only [u_116_1, u_116_4, u_116_5, u_116_6, u_116_9, u_116_9n, u_116_10, u_116_13, u_116_15, u_116_16, u_116_17, u_116_17n, u_116_18, u_116_21, u_116_22, u_116_23, u_116_24, u_116_25, u_116_26, u_116_27, u_116_28, u_116_29, u_116_32, u_116_32n, u_116_33, u_116_36, u_116_37, u_116_38, u_116_39, u_116_40, u_116_41, u_116_42, pm_O_some, pm_w_nil, pm_w_i, pm_w_l, pm_w_r, pm_w_n, pm_c_n, pm_c_i, pm_c_l, pm_c_r, pm_c_u, Nat.reduceAdd, Nat.reduceLeDiff, true_and, Option.toList_some, Option.toList_none, List.cons_append, List.nil_append, m1.f27, m1.f28, a1, a2, x40, ep, ld_i (t := 0) (ix_8 hr) rfl, st_i (t := 0) (ix_8 hr) rfl, ty_0, nI_clamp (show r < 2 ^ 31 by omega), upd_s, upd_upd, if_neg e1, ld_l (ix_320 (show 40 * r + k < 320 by omega)), nI_clamp (show 40 * r + k < 2 ^ 31 by omega), fill_in (show k < 40 by omega), lc_eq, hz, not_true, if_false, nI_pred]
        obtain ⟨y1, y2⟩ := m1.setu (upd fu r (nI k))
        exact ih _ (by omega) (by rw [← ht, tl, if_pos hz]) y1 (m2.trans y2)
      · simp only [u_116_1, u_116_4, u_116_5, u_116_6, u_116_9, u_116_9n, u_116_10, u_116_13, u_116_15, u_116_16, u_116_17, u_116_17n, u_116_18, u_116_21, u_116_22, u_116_23, u_116_24, u_116_25, u_116_26, u_116_27, u_116_28, u_116_29, u_116_45, u_116_45n, u_116_46, u_116_49, u_116_50, u_116_50n, u_116_51, u_116_54, u_116_55, u_116_56, u_116_59, u_116_60, u_116_63, u_116_63n, u_116_64, u_116_67, u_116_68, u_116_69, u_116_70, pm_O_some, pm_w_nil, pm_w_i, pm_w_l, pm_w_r, pm_w_n, pm_c_n, pm_c_i, pm_c_l, pm_c_r, pm_c_u, Nat.reduceAdd, Nat.reduceLeDiff, true_and, Option.toList_some, Option.toList_none, List.cons_append, List.nil_append, m1.f27, m1.f28, m1.f29, a1, a2, a3, x40, ep, ld_i (t := 0) (ix_8 hr) rfl, st_i (t := 0) (ix_8 hr) rfl, ty_0, nI_clamp (show r < 2 ^ 31 by omega), upd_s, if_neg e1, ld_l (ix_320 (show 40 * r + k < 320 by omega)), nI_clamp (show 40 * r + k < 2 ^ 31 by omega), fill_in (show k < 40 by omega), lc_eq, hz, not_false_eq_true, if_true, e2]
        obtain ⟨y1, y2⟩ := m1.sets (upd fs r (fs r))
        refine hQ _ ?_ (m2.trans y2)
        rw [← ht, tl, if_neg hz, if_neg (by omega)]
        exact y1
  exact loop n h hn rfl n1 Frm.rfl'
theorem z_divide (n1 : NA B h m (fill fl (40 * r) 40 f) (upd fu r (nI n)) fs fw) (hr : r < 8) {V : Nat} (hv : RV f n V) (hp : 0 < p) (hm : p < 1000000) (hQ0 : ¬ V % p = 0 → Q (some (.int 0)) h) (hQ1 : V % p = 0 → ∀ h' g u, NA B h' m (fill fl (40 * r) 40 g) (upd fu r (nI u)) (upd fs r (if u = 0 then 0 else fs r)) fw → Frm B h h' (m + 18) (m + 22) → RV g u (V / p) → Q (some (.int 1)) h') : PW B X 115 0 [some (.ref m), some (.int (nI r)), some (.int (nI p)), none, none, none, none, none] [] h Q := by
  obtain ⟨hn, hl, hrm, hV, hz0⟩ := hv
  have hz : ¬ lN p = 0 := l_ne0 hp (by omega)
  have a1 := n1.2.2.1
  have a2 := n1.2.2.2.1
  have loop2 : ∀ k rr fi w6 w7 hc, k ≤ n → rr < p → lok fi n → (∀ j, j < k → fi j = f j) → (∀ j, n ≤ j → fi j = f j) → hv fi n k * p + rr = hv f n k → V % p = 0 → NA B hc m (fill fl (40 * r) 40 fi) (upd fu r (nI n)) fs fw → Frm B h hc (m + 18) (m + 22) →
      PW B X 115 63 [some (.ref m), some (.int (nI r)), some (.int (nI p)), some (.long (lN rr)), none, some (.int (nI k - 1)), w6, w7] [] hc Q := by
    intro k
    induction k with
    | zero =>
      intro rr fi w6 w7 hc _ hrr hfi hs hs2 hv0 hV0 m1 m2
      have e1 : nI 0 - 1 < 0 := by decide
      simp only [u_115_63, u_115_65, u_115_117, u_115_117n, u_115_118, u_115_119, pm_O_some, pm_w_nil, pm_w_i, pm_w_l, pm_w_r, pm_w_n, pm_c_n, pm_c_i, pm_c_l, pm_c_r, pm_c_u, Nat.reduceAdd, Nat.reduceLeDiff, true_and, Option.toList_some, Option.toList_none, List.cons_append, List.nil_append, if_pos e1, m1.io]
      refine z_trim m1 hr hn (fun h' k1 k2 => ?_)
      simp only [u_115_122, u_115_123, u_115_123_0, u_115_123_1, pm_O_some, pm_w_nil, pm_w_i, pm_w_l, pm_w_r, pm_w_n, pm_c_n, pm_c_i, pm_c_l, pm_c_r, pm_c_u, Nat.reduceAdd, Nat.reduceLeDiff, true_and, Option.toList_some, Option.toList_none, List.cons_append, List.nil_append]
      refine hQ1 hV0 h' fi _ k1 (m2.trans k2) ⟨Nat.le_trans (tl_le _ _) hn, lok_mono hfi (tl_le _ _), tl_tl _ _, ?_, fun j j1 j2 => ?_⟩
      · rw [nv_tl]
        rw [hv_0, hv_0, hV] at hv0
        rw [← hv0, Nat.add_comm, Nat.add_mul_div_right _ _ hp, Nat.div_eq_of_lt hrr, Nat.zero_add]
      · by_cases c : n ≤ j
        · rw [hs2 j c]
          exact hz0 j c j2
        · exact tl_zero j1 (by omega)
    | succ k ih =>
      intro rr fi w6 w7 hc hk hrr hfi hs hs2 hv0 hV0 m1 m2
      have e1 : ¬ nI k < 0 := nI_pos (by omega)
      have hd := hfi k (by omega)
      have hfd : dg fi k = dg f k := dg_eq (hs k (by omega))
      have hsm : rr * 1000000000 + dg fi k < 2 ^ 63 := by omega
      have hqd : (rr * 1000000000 + dg fi k) / p < 1000000000 := by
        refine Nat.div_lt_of_lt_mul ?_
        have : (rr + 1) * 1000000000 ≤ p * 1000000000 := Nat.mul_le_mul_right _ hrr
        omega
      have b1 := m1.2.2.1
      rw [u_115_63]
      simp only [u_115_65, u_115_68, u_115_69, u_115_72, u_115_73, u_115_73n, u_115_74, u_115_77, u_115_79, u_115_80, u_115_81, u_115_83, u_115_84, u_115_85, u_115_86, u_115_88, u_115_88n, u_115_89, u_115_92, u_115_94, u_115_95, u_115_96, u_115_98, u_115_99, u_115_101, u_115_102, u_115_103, u_115_104, u_115_105, u_115_107, u_115_108, u_115_109, u_115_110, u_115_111, u_115_114, pm_O_some, pm_w_nil, pm_w_i, pm_w_l, pm_w_r, pm_w_n, pm_c_n, pm_c_i, pm_c_l, pm_c_r, pm_c_u, Nat.reduceAdd, Nat.reduceLeDiff, true_and, Option.toList_some, Option.toList_none, List.cons_append, List.nil_append, nI_pred, if_neg e1, m1.f27, b1, x40, ld_l (ix_320 (show 40 * r + k < 320 by omega)), st_l (ix_320 (show 40 * r + k < 320 by omega)), nI_clamp (show 40 * r + k < 2 ^ 31 by omega), fill_in (show k < 40 by omega), nI_sub1, nI_l (show p < 2 ^ 31 by omega), hz, not_false_eq_true, fq_up (show k < 40 by omega)]
      rw [hd.1, lB, lN_mul, lN_add, pk_lRem hsm hp (by omega), pk_lDiv hsm hp (by omega)]
      obtain ⟨y1, y2⟩ := m1.setl (fill fl (40 * r) 40 (vp_updL fi k (lN ((rr * 1000000000 + dg fi k) / p))))
      refine ih _ _ _ _ _ (by omega) (Nat.mod_lt _ hp) (lok_up hfi hqd) (fun j hj => by rw [pk_uLn (by omega)]; exact hs j (by omega)) (fun j hj => by rw [pk_uLn (by omega)]; exact hs2 j (by omega)) ?_ hV0 y1 (m2.trans y2)
      rw [hv_step (show k < n by omega), hv_step (show k < n by omega), dg_us (by omega)]
      have hh : hv (vp_updL fi k (lN ((rr * 1000000000 + dg fi k) / p))) n (k + 1) = hv fi n (k + 1) := by
        unfold hv
        refine nv_congr (fun i hi => ?_)
        show dg (vp_updL fi k _) (k + 1 + i) = dg fi (k + 1 + i)
        exact dg_un (by omega)
      rw [hh, ← hv0, ← hfd]
      have e := Nat.div_add_mod (rr * 1000000000 + dg fi k) p
      generalize (rr * 1000000000 + dg fi k) / p = qq at e ⊢
      generalize (rr * 1000000000 + dg fi k) % p = r2 at e ⊢
      generalize hv fi n (k + 1) = HV
      rw [Nat.add_mul, Nat.mul_add, Nat.mul_comm qq p]
      have e5 : 1000000000 * HV * p = 1000000000 * (HV * p) := Nat.mul_assoc _ _ _
      rw [e5]
      omega
  have loop : ∀ k, k ≤ n → PW B X 115 12 [some (.ref m), some (.int (nI r)), some (.int (nI p)), some (.long (lN (hv f n k % p))), none, some (.int (nI k - 1)), none, none] [] h Q := by
    intro k
    induction k with
    | zero =>
      intro _
      have e1 : nI 0 - 1 < 0 := by decide
      have hlt : V % p < p := Nat.mod_lt _ hp
      by_cases c : V % p = 0
      · have e2 : lN (V % p) = 0 := by rw [c]; rfl
        simp only [u_115_12, u_115_14, u_115_45, u_115_46, u_115_47, u_115_48, u_115_53, u_115_53n, u_115_54, u_115_57, u_115_58, u_115_59, u_115_60, u_115_61, pm_O_some, pm_w_nil, pm_w_i, pm_w_l, pm_w_r, pm_w_n, pm_c_n, pm_c_i, pm_c_l, pm_c_r, pm_c_u, Nat.reduceAdd, Nat.reduceLeDiff, true_and, Option.toList_some, Option.toList_none, List.cons_append, List.nil_append, if_pos e1, hv_0, hV, lc_eq, e2, if_true, n1.f28, a2, ld_i (t := 0) (ix_8 hr) rfl, nI_clamp (show r < 2 ^ 31 by omega), upd_s]
        exact loop2 n 0 f none none h (Nat.le_refl _) hp hl (fun _ _ => rfl) (fun _ _ => rfl) (by rw [hv_end]; simp) c n1 Frm.rfl'
      · have e2 : ¬ lN (V % p) = 0 := l_ne0 (by omega) (by omega)
        simp only [u_115_12, u_115_14, u_115_45, u_115_46, u_115_47, u_115_48, u_115_51, u_115_52, u_115_52_0, u_115_52_1, pm_O_some, pm_w_nil, pm_w_i, pm_w_l, pm_w_r, pm_w_n, pm_c_n, pm_c_i, pm_c_l, pm_c_r, pm_c_u, Nat.reduceAdd, Nat.reduceLeDiff, true_and, Option.toList_some, Option.toList_none, List.cons_append, List.nil_append, if_pos e1, hv_0, hV, lc_eq, e2, if_false]
        exact hQ0 c
    | succ k ih =>
      intro hk
      have e1 : ¬ nI k < 0 := nI_pos (by omega)
      have hd := hl k (by omega)
      have hrr : hv f n (k + 1) % p < p := Nat.mod_lt _ hp
      have hsm : hv f n (k + 1) % p * 1000000000 + dg f k < 2 ^ 63 := by omega
      rw [u_115_12]
      simp only [u_115_14, u_115_17, u_115_18, u_115_21, u_115_22, u_115_22n, u_115_23, u_115_26, u_115_28, u_115_29, u_115_30, u_115_32, u_115_33, u_115_34, u_115_35, u_115_36, u_115_37, u_115_38, u_115_39, u_115_42, pm_O_some, pm_w_nil, pm_w_i, pm_w_l, pm_w_r, pm_w_n, pm_c_n, pm_c_i, pm_c_l, pm_c_r, pm_c_u, Nat.reduceAdd, Nat.reduceLeDiff, true_and, Option.toList_some, Option.toList_none, List.cons_append, List.nil_append, nI_pred, if_neg e1, n1.f27, a1, x40, ld_l (ix_320 (show 40 * r + k < 320 by omega)), nI_clamp (show 40 * r + k < 2 ^ 31 by omega), fill_in (show k < 40 by omega), nI_sub1, nI_l (show p < 2 ^ 31 by omega), hz, not_false_eq_true]
      rw [hd.1, lB, lN_mul, lN_add, pk_lRem hsm hp (by omega)]
      have := ih (by omega)
      rw [hv_step (show k < n by omega)] at this
      rw [show (hv f n (k + 1) % p * 1000000000 + dg f k) % p = (dg f k + 1000000000 * hv f n (k + 1)) % p by
        rw [Nat.add_comm, Nat.mul_comm, Nat.add_mod, Nat.mul_mod, Nat.mod_mod, ← Nat.mul_mod, ← Nat.add_mod]]
      exact this
  have := loop n (Nat.le_refl _)
  rw [hv_end, Nat.zero_mod] at this
  simp only [u_115_0, u_115_1, u_115_2, u_115_2n, u_115_3, u_115_6, u_115_7, u_115_8, u_115_9, u_115_10, pm_O_some, pm_w_nil, pm_w_i, pm_w_l, pm_w_r, pm_w_n, pm_c_n, pm_c_i, pm_c_l, pm_c_r, pm_c_u, Nat.reduceAdd, Nat.reduceLeDiff, true_and, Option.toList_some, Option.toList_none, List.cons_append, List.nil_append, n1.f28, a2, ld_i (t := 0) (ix_8 hr) rfl, nI_clamp (show r < 2 ^ 31 by omega), upd_s]
  exact this
theorem c_divide (n1 : NS B h m R) (hr : r < 8) (hp : 0 < p) (hm : p < 1000000) (hQ0 : ¬ p ∣ (R r).2.1 → Q (some (.int 0)) h) (hQ1 : p ∣ (R r).2.1 → ∀ h', NS B h' m (ups R r ((if (R r).2.1 / p = 0 then 0 else (R r).1), (R r).2.1 / p, (R r).2.2)) → Frm B h h' (m + 18) (m + 22) → Q (some (.int 1)) h') : PW B X 115 0 [some (.ref m), some (.int (nI r)), some (.int (nI p)), none, none, none, none, none] [] h Q := by
  obtain ⟨fl, fu, fs, fw, n2, n3⟩ := n1
  obtain ⟨u, hv, hu⟩ := (n3 r hr).rv
  have e1 : fill fl (40 * r) 40 (fun k => fl (40 * r + k)) = fl := fq_self
  have e2 : upd fu r (nI u) = fu := by rw [← hu]; exact upd_self
  have e3 : fs r = (R r).1 := by
    obtain ⟨_, _, _, _, _, _, _, a7, _⟩ := n3 r hr
    exact a7
  have n4 : NA B h m (fill fl (40 * r) 40 (fun k => fl (40 * r + k))) (upd fu r (nI u)) fs fw := by rw [e1, e2]; exact n2
  refine z_divide n4 hr hv hp hm (fun c => hQ0 (fun z => c (Nat.mod_eq_zero_of_dvd z))) (fun c h' g u' k1 k2 k3 => hQ1 (Nat.dvd_of_mod_eq_zero c) h' ⟨_, _, _, _, k1, ?_⟩ k2)
  have t := NS.dig n3 hr (s := if (R r).2.1 / p = 0 then 0 else (R r).1) k3
  have e4 : (if u' = 0 then 0 else fs r) = (if (R r).2.1 / p = 0 then 0 else (R r).1) := by
    rw [e3]
    by_cases c2 : u' = 0
    · rw [if_pos c2, if_pos (k3.z.mp c2)]
    · rw [if_neg c2, if_neg (fun z => c2 (k3.z.mpr z))]
  rw [e4]
  exact t
theorem c_under {below : Nat} (n1 : NS B h m R) (hr : r < 8) (hb0 : 0 < below) (hb : below ≤ 1000) (hD : dp (R r).2.2 168 * below < 1000000000 ^ 24) (hQ : ∀ h' R', NS B h' m R' → (R' r).1 = (R r).1 → (R' r).2.1 = (R r).2.1 → dp (R' r).2.2 168 = dp (R r).2.2 168 * below → (∀ j, ¬ j = r → R' j = R j) → Frm B h h' (m + 18) (m + 22) → Q none h') : PW B X 113 0 [some (.ref m), some (.int (nI r)), some (.int (nI below)), none, none] [] h Q := by
  have outer : ∀ d k rest hc R', k + d = 168 → 0 < rest → rest ≤ 1000 → NS B hc m R' → (R' r).1 = (R r).1 → (R' r).2.1 = (R r).2.1 → dp (R' r).2.2 168 * rest = dp (R r).2.2 168 * below → (∀ j, ¬ j = r → R' j = R j) → (∀ j, j < k → ¬ pr j ∣ rest) → Frm B h hc (m + 18) (m + 22) → PW B X 113 5 [some (.ref m), some (.int (nI r)), some (.int (nI below)), some (.int (nI rest)), some (.int (nI k))] [] hc Q := by
    intro d
    induction d with
    | zero =>
      intro k rest hc R' hk r0 r1 m1 i1 i2 i3 i4 i5 m2
      obtain rfl : k = 168 := by omega
      have e1 : (168 : Int32) ≤ nI 168 := by decide
      simp only [u_113_5, u_113_7, u_113_10, u_113_61, pm_O_some, pm_w_nil, pm_w_i, pm_w_l, pm_w_r, pm_w_n, pm_c_n, pm_c_i, pm_c_l, pm_c_r, pm_c_u, Nat.reduceAdd, Nat.reduceLeDiff, true_and, Option.toList_some, Option.toList_none, List.cons_append, List.nil_append, if_pos e1]
      have : rest = 1 := pr_one r0 r1 i5
      subst this
      exact hQ hc R' m1 i1 i2 (by rw [← i3, Nat.mul_one]) i4 m2
    | succ d ih =>
      intro k rest hc R' hk r0 r1 m1 i1 i2 i3 i4 i5 m2
      have e1 : ¬ (168 : Int32) ≤ nI k := nI_ge (b := 168) (by omega) (by decide)
      simp only [u_113_5, u_113_7, u_113_10, pm_O_some, pm_w_nil, pm_w_i, pm_w_l, pm_w_r, pm_w_n, pm_c_n, pm_c_i, pm_c_l, pm_c_r, pm_c_u, Nat.reduceAdd, Nat.reduceLeDiff, true_and, Option.toList_some, Option.toList_none, List.cons_append, List.nil_append, if_neg e1]
      have hpk := pr_b (k := k) (by omega)
      have inner : ∀ rest, 0 < rest → rest ≤ 1000 → ∀ hc R', NS B hc m R' → (R' r).1 = (R r).1 → (R' r).2.1 = (R r).2.1 → dp (R' r).2.2 168 * rest = dp (R r).2.2 168 * below → (∀ j, ¬ j = r → R' j = R j) → (∀ j, j < k → ¬ pr j ∣ rest) → Frm B h hc (m + 18) (m + 22) → PW B X 113 13 [some (.ref m), some (.int (nI r)), some (.int (nI below)), some (.int (nI rest)), some (.int (nI k))] [] hc Q := by
        intro rest
        induction rest using Nat.strongRecOn with
        | ind rest ihr =>
          intro r0 r1 hc R' m1 i1 i2 i3 i4 i5 m2
          obtain ⟨fl, fu, fs, fw, n2, n3⟩ := m1
          obtain ⟨fp, p1, p2⟩ := n2.2.1
          have ez : ¬ nI (pr k) = 0 := mt (nI_e0 (by omega)).mp (by omega)
          have er : nI rest - nI rest / nI (pr k) * nI (pr k) = nI (rest % pr k) := nI_rem (by omega) (by omega) (by omega)
          have hlt : rest % pr k < pr k := Nat.mod_lt _ (by omega)
          by_cases c : rest % pr k = 0
          · have a4 := n2.2.2.2.2.2
            obtain ⟨w1, w2⟩ := (n3 r hr).pw (k := k) (by omega)
            have e2 : nI (rest % pr k) = 0 := by rw [c]; rfl
            rw [u_113_13]
            simp only [u_113_14, u_113_14n, u_113_15, u_113_18, u_113_20, u_113_21, u_113_22, u_113_25, u_113_25n, u_113_26, u_113_29, u_113_32, u_113_33, u_113_34, u_113_36, u_113_37, u_113_38, u_113_39, u_113_40, u_113_41, pm_O_some, pm_w_nil, pm_w_i, pm_w_l, pm_w_r, pm_w_n, pm_c_n, pm_c_i, pm_c_l, pm_c_r, pm_c_u, Nat.reduceAdd, Nat.reduceLeDiff, true_and, Option.toList_some, Option.toList_none, List.cons_append, List.nil_append, n2.f26, p1, ld_i (t := 0) (ix_168 (show k < 168 by omega)) rfl, nI_clamp (show k < 2 ^ 31 by omega), p2 k (by omega), ez, not_false_eq_true, er, e2, not_true, if_false, n2.f30, a4, x168, ld_i (t := 0) (ix_1344 (show 168 * r + k < 1344 by omega)) rfl, st_i (t := 0) (ix_1344 (show 168 * r + k < 1344 by omega)) rfl, nI_clamp (show 168 * r + k < 2 ^ 31 by omega), ty_0, w1, nI_1]
            obtain ⟨y1, y2⟩ := n2.setw (upd fw (168 * r + k) (nI ((R' r).2.2 k + 1)))
            obtain ⟨fp', p1', p2'⟩ := y1.2.1
            have ed : nI rest / nI (pr k) = nI (rest / pr k) := nI_div (by omega) (by omega) (by omega)
            simp only [u_113_42, u_113_43, u_113_43n, u_113_44, u_113_47, u_113_49, u_113_50, u_113_51, u_113_52, pm_O_some, pm_w_nil, pm_w_i, pm_w_l, pm_w_r, pm_w_n, pm_c_n, pm_c_i, pm_c_l, pm_c_r, pm_c_u, Nat.reduceAdd, Nat.reduceLeDiff, true_and, Option.toList_some, Option.toList_none, List.cons_append, List.nil_append, y1.f26, p1', ld_i (t := 0) (ix_168 (show k < 168 by omega)) rfl, nI_clamp (show k < 2 ^ 31 by omega), p2' k (by omega), ez, not_false_eq_true, ed]
            have hdv : pr k ∣ rest := Nat.dvd_of_mod_eq_zero c
            have hrr : rest / pr k * pr k = rest := Nat.div_mul_cancel hdv
            have hq0 : 0 < rest / pr k := Nat.div_pos (Nat.le_of_dvd r0 hdv) (by omega)
            have hq1 : rest / pr k < rest := Nat.div_lt_self r0 (by omega)
            have hd1 : dp (ups (R' r).2.2 k ((R' r).2.2 k + 1)) 168 * (rest / pr k) = dp (R r).2.2 168 * below := by
              rw [dp_up (by omega), Nat.mul_assoc, Nat.mul_comm (pr k), hrr, i3]
            have hpw : (R' r).2.2 k + 1 < 2 ^ 20 := by
              have t1 : dp (ups (R' r).2.2 k ((R' r).2.2 k + 1)) 168 < 1000000000 ^ 24 := by
                have := Nat.le_mul_of_pos_right (dp (ups (R' r).2.2 k ((R' r).2.2 k + 1)) 168) hq0
                omega
              have := dp_pw (k := k) (by omega) t1
              rw [ups_s] at this
              omega
            refine ihr (rest / pr k) hq1 hq0 (by omega) _ _ ⟨_, _, _, _, y1, NS.pow n3 hr (show k < 168 by omega) hpw⟩ ?_ ?_ ?_ ?_ (fun j hj z => i5 j hj (Nat.dvd_trans z (Nat.div_dvd_of_dvd hdv))) (m2.trans y2)
            · rw [ups_s]; exact i1
            · rw [ups_s]; exact i2
            · rw [ups_s]; exact hd1
            · intro j hj
              rw [ups_n hj]
              exact i4 j hj
          · have e2 : ¬ nI (rest % pr k) = 0 := mt (nI_e0 (by omega)).mp c
            simp only [u_113_13, u_113_14, u_113_14n, u_113_15, u_113_18, u_113_20, u_113_21, u_113_22, u_113_55, u_113_58, pm_O_some, pm_w_nil, pm_w_i, pm_w_l, pm_w_r, pm_w_n, pm_c_n, pm_c_i, pm_c_l, pm_c_r, pm_c_u, Nat.reduceAdd, Nat.reduceLeDiff, true_and, Option.toList_some, Option.toList_none, List.cons_append, List.nil_append, n2.f26, p1, ld_i (t := 0) (ix_168 (show k < 168 by omega)) rfl, nI_clamp (show k < 2 ^ 31 by omega), p2 k (by omega), ez, not_false_eq_true, er, e2, if_true, nI_1]
            refine ih (k + 1) rest hc R' (by omega) r0 r1 ⟨fl, fu, fs, fw, n2, n3⟩ i1 i2 i3 i4 (fun j hj z => ?_) m2
            by_cases cj : j = k
            · subst cj
              exact c (Nat.mod_eq_zero_of_dvd z)
            · exact i5 j (by omega) z
      exact inner rest r0 r1 hc R' m1 i1 i2 i3 i4 i5 m2
  simp only [u_113_0, u_113_1, u_113_2, u_113_3, pm_O_some, pm_w_nil, pm_w_i, pm_w_l, pm_w_r, pm_w_n, pm_c_n, pm_c_i, pm_c_l, pm_c_r, pm_c_u, Nat.reduceAdd, Nat.reduceLeDiff, true_and, Option.toList_some, Option.toList_none, List.cons_append, List.nil_append]
  exact outer 168 0 below h R (by omega) hb0 hb n1 rfl rfl rfl (fun _ _ => rfl) (fun j hj => by omega) Frm.rfl'
theorem c_reduce (n1 : NS B h m R) (hr : r < 8) (hQ : ∀ h' R', NS B h' m R' → (R' r).1 = (R r).1 → (R' r).2.1 * dp (R r).2.2 168 = (R r).2.1 * dp (R' r).2.2 168 → Nat.gcd (R' r).2.1 (dp (R' r).2.2 168) = 1 → (∀ j, ¬ j = r → R' j = R j) → Frm B h h' (m + 18) (m + 22) → Q none h') : PW B X 114 0 [some (.ref m), some (.int (nI r)), none] [] h Q := by
  by_cases cN : (R r).2.1 = 0
  · have outer : ∀ d k hc R', k + d = 168 → NS B hc m R' → (R' r).1 = (R r).1 → (R' r).2.1 = 0 → (∀ j, j < k → (R' r).2.2 j = 0) → (∀ j, ¬ j = r → R' j = R j) → Frm B h hc (m + 18) (m + 22) → PW B X 114 2 [some (.ref m), some (.int (nI r)), some (.int (nI k))] [] hc Q := by
      intro d
      induction d with
      | zero =>
        intro k hc R' hk m1 i1 i2 i3 i4 m2
        obtain rfl : k = 168 := by omega
        have e1 : (168 : Int32) ≤ nI 168 := by decide
        simp only [u_114_2, u_114_3, u_114_6, u_114_85, pm_O_some, pm_w_nil, pm_w_i, pm_w_l, pm_w_r, pm_w_n, pm_c_n, pm_c_i, pm_c_l, pm_c_r, pm_c_u, Nat.reduceAdd, Nat.reduceLeDiff, true_and, Option.toList_some, Option.toList_none, List.cons_append, List.nil_append, if_pos e1]
        refine hQ hc R' m1 i1 (by rw [i2, cN, Nat.zero_mul, Nat.zero_mul]) ?_ i4 m2
        rw [dp_congr (g := fun _ => 0) (fun i hi => i3 i hi), dp_0]
        exact Nat.gcd_one_right _
      | succ d ih =>
        intro k hc R' hk m1 i1 i2 i3 i4 m2
        have e1 : ¬ (168 : Int32) ≤ nI k := nI_ge (b := 168) (by omega) (by decide)
        obtain ⟨fl, fu, fs, fw, n2, n3⟩ := m1
        obtain ⟨u, hv, hu⟩ := (n3 r hr).rv
        have hu0 : fu r = 0 := by rw [hu, hv.z.mpr i2]; rfl
        have a2 := n2.2.2.2.1
        have a4 := n2.2.2.2.2.2
        rw [u_114_2]
        simp only [u_114_3, u_114_6, u_114_9, u_114_9n, u_114_10, u_114_13, u_114_14, u_114_15, u_114_18, u_114_18n, u_114_19, u_114_22, u_114_25, u_114_26, u_114_27, u_114_28, u_114_29, u_114_30, pm_O_some, pm_w_nil, pm_w_i, pm_w_l, pm_w_r, pm_w_n, pm_c_n, pm_c_i, pm_c_l, pm_c_r, pm_c_u, Nat.reduceAdd, Nat.reduceLeDiff, true_and, Option.toList_some, Option.toList_none, List.cons_append, List.nil_append, if_neg e1, n2.f28, n2.f30, a2, a4, ld_i (t := 0) (ix_8 hr) rfl, nI_clamp (show r < 2 ^ 31 by omega), hu0, not_true, if_false, x168, st_i (t := 0) (ix_1344 (show 168 * r + k < 1344 by omega)) rfl, nI_clamp (show 168 * r + k < 2 ^ 31 by omega), ty_0]
        obtain ⟨y1, y2⟩ := n2.setw (upd fw (168 * r + k) (nI 0))
        have a5 := y1.2.2.2.2.2
        have e3 : nI 0 ≤ 0 := by decide
        rw [show (0 : Int32) = nI 0 from rfl] at *
        simp only [u_114_31, u_114_31n, u_114_32, u_114_35, u_114_38, u_114_39, u_114_40, u_114_41, u_114_42, u_114_43, u_114_79, u_114_82, pm_O_some, pm_w_nil, pm_w_i, pm_w_l, pm_w_r, pm_w_n, pm_c_n, pm_c_i, pm_c_l, pm_c_r, pm_c_u, Nat.reduceAdd, Nat.reduceLeDiff, true_and, Option.toList_some, Option.toList_none, List.cons_append, List.nil_append, y1.f30, a5, x168, ld_i (t := 0) (ix_1344 (show 168 * r + k < 1344 by omega)) rfl, nI_clamp (show 168 * r + k < 2 ^ 31 by omega), upd_s, if_pos e3, nI_1]
        refine ih (k + 1) _ _ (by omega) ⟨_, _, _, _, y1, NS.pow n3 hr (show k < 168 by omega) (by decide)⟩ ?_ ?_ ?_ ?_ (m2.trans y2)
        · rw [ups_s]; exact i1
        · rw [ups_s]; exact i2
        · intro j hj
          rw [ups_s]
          show ups (R' r).2.2 k 0 j = 0
          by_cases c : j = k
          · rw [c, ups_s]
          · rw [ups_n c]; exact i3 j (by omega)
        · intro j hj
          rw [ups_n hj]
          exact i4 j hj
    simp only [u_114_0, u_114_1, pm_O_some, pm_w_nil, pm_w_i, pm_w_l, pm_w_r, pm_w_n, pm_c_n, pm_c_i, pm_c_l, pm_c_r, pm_c_u, Nat.reduceAdd, Nat.reduceLeDiff, true_and, Option.toList_some, Option.toList_none, List.cons_append, List.nil_append]
    exact outer 168 0 h R (by omega) n1 rfl cN (fun j hj => by omega) (fun _ _ => rfl) Frm.rfl'
  · have outer : ∀ d k hc R', k + d = 168 → NS B hc m R' → (R' r).1 = (R r).1 → ¬ (R' r).2.1 = 0 → (R' r).2.1 * dp (R r).2.2 168 = (R r).2.1 * dp (R' r).2.2 168 → (∀ j, j < k → 0 < (R' r).2.2 j → ¬ pr j ∣ (R' r).2.1) → (∀ j, ¬ j = r → R' j = R j) → Frm B h hc (m + 18) (m + 22) → PW B X 114 2 [some (.ref m), some (.int (nI r)), some (.int (nI k))] [] hc Q := by
      intro d
      induction d with
      | zero =>
        intro k hc R' hk m1 i1 i2 i3 i4 i5 m2
        obtain rfl : k = 168 := by omega
        have e1 : (168 : Int32) ≤ nI 168 := by decide
        simp only [u_114_2, u_114_3, u_114_6, u_114_85, pm_O_some, pm_w_nil, pm_w_i, pm_w_l, pm_w_r, pm_w_n, pm_c_n, pm_c_i, pm_c_l, pm_c_r, pm_c_u, Nat.reduceAdd, Nat.reduceLeDiff, true_and, Option.toList_some, Option.toList_none, List.cons_append, List.nil_append, if_pos e1]
        exact hQ hc R' m1 i1 i3 (dp_cop (Nat.le_refl _) i4) i5 m2
      | succ d ih =>
        intro k hc R' hk m1 i1 i2 i3 i4 i5 m2
        have e1 : ¬ (168 : Int32) ≤ nI k := nI_ge (b := 168) (by omega) (by decide)
        have hpk := pr_b (k := k) (by omega)
        have inner : ∀ x hc R', (R' r).2.2 k = x → NS B hc m R' → (R' r).1 = (R r).1 → ¬ (R' r).2.1 = 0 → (R' r).2.1 * dp (R r).2.2 168 = (R r).2.1 * dp (R' r).2.2 168 → (∀ j, j < k → 0 < (R' r).2.2 j → ¬ pr j ∣ (R' r).2.1) → (∀ j, ¬ j = r → R' j = R j) → Frm B h hc (m + 18) (m + 22) → PW B X 114 31 [some (.ref m), some (.int (nI r)), some (.int (nI k))] [] hc Q := by
          intro x
          induction x with
          | zero =>
            intro hc R' hx m1 i1 i2 i3 i4 i5 m2
            obtain ⟨fl, fu, fs, fw, n2, n3⟩ := m1
            have a4 := n2.2.2.2.2.2
            obtain ⟨w1, w2⟩ := (n3 r hr).pw (k := k) (by omega)
            rw [hx] at w1
            have e3 : nI 0 ≤ 0 := by decide
            simp only [u_114_31, u_114_31n, u_114_32, u_114_35, u_114_38, u_114_39, u_114_40, u_114_41, u_114_42, u_114_43, u_114_79, u_114_82, pm_O_some, pm_w_nil, pm_w_i, pm_w_l, pm_w_r, pm_w_n, pm_c_n, pm_c_i, pm_c_l, pm_c_r, pm_c_u, Nat.reduceAdd, Nat.reduceLeDiff, true_and, Option.toList_some, Option.toList_none, List.cons_append, List.nil_append, n2.f30, a4, x168, ld_i (t := 0) (ix_1344 (show 168 * r + k < 1344 by omega)) rfl, nI_clamp (show 168 * r + k < 2 ^ 31 by omega), w1, if_pos e3, nI_1]
            refine ih (k + 1) hc R' (by omega) ⟨fl, fu, fs, fw, n2, n3⟩ i1 i2 i3 (fun j hj z => ?_) i5 m2
            by_cases c : j = k
            · subst c
              omega
            · exact i4 j (by omega) z
          | succ x ihx =>
            intro hc R' hx m1 i1 i2 i3 i4 i5 m2
            have m1' := m1
            obtain ⟨fl, fu, fs, fw, n2, n3⟩ := m1
            have a4 := n2.2.2.2.2.2
            obtain ⟨fp, p1, p2⟩ := n2.2.1
            obtain ⟨w1, w2⟩ := (n3 r hr).pw (k := k) (by omega)
            have w3 : fw (168 * r + k) = nI (x + 1) := by rw [w1, hx]
            rw [hx] at w2
            have e3 : ¬ nI (x + 1) ≤ 0 := nI_nle (by omega) (by omega)
            rw [u_114_31]
            simp only [u_114_32, u_114_35, u_114_38, u_114_39, u_114_40, u_114_41, u_114_42, u_114_43, u_114_46, u_114_46n, u_114_47, u_114_48, u_114_48n, u_114_49, u_114_52, u_114_53, u_114_54, pm_O_some, pm_w_nil, pm_w_i, pm_w_l, pm_w_r, pm_w_n, pm_c_n, pm_c_i, pm_c_l, pm_c_r, pm_c_u, Nat.reduceAdd, Nat.reduceLeDiff, true_and, Option.toList_some, Option.toList_none, List.cons_append, List.nil_append, n2.f30, a4, x168, ld_i (t := 0) (ix_1344 (show 168 * r + k < 1344 by omega)) rfl, nI_clamp (show 168 * r + k < 2 ^ 31 by omega), w3, if_neg e3, n2.f26, p1, ld_i (t := 0) (ix_168 (show k < 168 by omega)) rfl, nI_clamp (show k < 2 ^ 31 by omega), p2 k (by omega), n2.io]
            refine c_divide m1' hr (by omega) (by omega) (fun hnd => ?_) (fun hdv h2 m3 F3 => ?_)
            · simp only [u_114_57, u_114_79, u_114_82, pm_O_some, pm_w_nil, pm_w_i, pm_w_l, pm_w_r, pm_w_n, pm_c_n, pm_c_i, pm_c_l, pm_c_r, pm_c_u, Nat.reduceAdd, Nat.reduceLeDiff, true_and, Option.toList_some, Option.toList_none, List.cons_append, List.nil_append, if_true, nI_1]
              refine ih (k + 1) hc R' (by omega) m1' i1 i2 i3 (fun j hj z => ?_) i5 m2
              by_cases c : j = k
              · subst c
                exact hnd
              · exact i4 j (by omega) z
            · have hq0 : ¬ (R' r).2.1 / pr k = 0 := by
                have := Nat.div_pos (Nat.le_of_dvd (by omega) hdv) (show 0 < pr k by omega)
                omega
              have hqm : (R' r).2.1 / pr k * pr k = (R' r).2.1 := Nat.div_mul_cancel hdv
              rw [if_neg hq0] at m3
              obtain ⟨fl', fu', fs', fw', n2', n3'⟩ := m3
              have a4' := n2'.2.2.2.2.2
              obtain ⟨w1', w2'⟩ := (n3' r hr).pw (k := k) (by omega)
              rw [ups_s] at w1'
              have w3' : fw' (168 * r + k) = nI (x + 1) := by rw [w1']; show nI ((R' r).2.2 k) = _; rw [hx]
              have e10 : ¬ (1 : Int32) = 0 := by decide
              simp only [u_114_57, u_114_60, u_114_60n, u_114_61, u_114_64, u_114_67, u_114_68, u_114_69, u_114_70, u_114_71, u_114_72, u_114_73, u_114_74, u_114_75, u_114_76, pm_O_some, pm_w_nil, pm_w_i, pm_w_l, pm_w_r, pm_w_n, pm_c_n, pm_c_i, pm_c_l, pm_c_r, pm_c_u, Nat.reduceAdd, Nat.reduceLeDiff, true_and, Option.toList_some, Option.toList_none, List.cons_append, List.nil_append, e10, if_false, n2'.f30, a4', x168, ld_i (t := 0) (ix_1344 (show 168 * r + k < 1344 by omega)) rfl, st_i (t := 0) (ix_1344 (show 168 * r + k < 1344 by omega)) rfl, nI_clamp (show 168 * r + k < 2 ^ 31 by omega), ty_0, w3', nI_pred]
              obtain ⟨y1, y2⟩ := n2'.setw (upd fw' (168 * r + k) (nI x))
              have hd : dp (R' r).2.2 168 = dp (ups (R' r).2.2 k x) 168 * pr k := by
                have t := dp_up (f := ups (R' r).2.2 k x) (k := k) (n := 168) (by omega)
                rw [ups_s] at t
                rw [← t]
                refine dp_congr (fun i hi => ?_)
                by_cases c : i = k
                · rw [c, ups_s, hx]
                · rw [ups_n c, ups_n c]
              refine ihx _ _ ?_ ⟨_, _, _, _, y1, NS.pow n3' hr (show k < 168 by omega) (show x < 2 ^ 20 by omega)⟩ ?_ ?_ ?_ ?_ ?_ ((m2.trans F3).trans y2)
              · rw [ups_s, ups_s]
                exact ups_s
              · rw [ups_s, ups_s]; exact i1
              · rw [ups_s, ups_s]; exact hq0
              · rw [ups_s, ups_s]
                show (R' r).2.1 / pr k * dp (R r).2.2 168 = (R r).2.1 * dp (ups (R' r).2.2 k x) 168
                refine Nat.eq_of_mul_eq_mul_right (show 0 < pr k by omega) ?_
                rw [Nat.mul_right_comm, hqm, i3, hd, Nat.mul_assoc]
              · rw [ups_s, ups_s]
                intro j hj z
                show ¬ pr j ∣ (R' r).2.1 / pr k
                have z' : 0 < (R' r).2.2 j := by
                  have e : ups (R' r).2.2 k x j = (R' r).2.2 j := ups_n (by omega)
                  have z2 : 0 < ups (R' r).2.2 k x j := z
                  omega
                exact fun zz => i4 j hj z' (Nat.dvd_trans zz (Nat.div_dvd_of_dvd hdv))
              · intro j hj
                rw [ups_n hj, ups_n hj]
                exact i5 j hj
        obtain ⟨fl, fu, fs, fw, n2, n3⟩ := m1
        obtain ⟨u, hv, hu⟩ := (n3 r hr).rv
        have hu0 : ¬ fu r = 0 := by
          rw [hu]
          refine mt (nI_e0 (by have := hv.1; omega)).mp ?_
          exact fun z => i2 (hv.z.mp z)
        have a2 := n2.2.2.2.1
        rw [u_114_2]
        simp only [u_114_3, u_114_6, u_114_9, u_114_9n, u_114_10, u_114_13, u_114_14, u_114_15, pm_O_some, pm_w_nil, pm_w_i, pm_w_l, pm_w_r, pm_w_n, pm_c_n, pm_c_i, pm_c_l, pm_c_r, pm_c_u, Nat.reduceAdd, Nat.reduceLeDiff, true_and, Option.toList_some, Option.toList_none, List.cons_append, List.nil_append, if_neg e1, n2.f28, a2, ld_i (t := 0) (ix_8 hr) rfl, nI_clamp (show r < 2 ^ 31 by omega), hu0, not_false_eq_true, if_true]
        exact inner _ hc R' rfl ⟨fl, fu, fs, fw, n2, n3⟩ i1 i2 i3 i4 i5 m2
    simp only [u_114_0, u_114_1, pm_O_some, pm_w_nil, pm_w_i, pm_w_l, pm_w_r, pm_w_n, pm_c_n, pm_c_i, pm_c_l, pm_c_r, pm_c_u, Nat.reduceAdd, Nat.reduceLeDiff, true_and, Option.toList_some, Option.toList_none, List.cons_append, List.nil_append]
    exact outer 168 0 h R (by omega) n1 rfl cN rfl (fun j hj => by omega) (fun _ _ => rfl) Frm.rfl'
end DVS

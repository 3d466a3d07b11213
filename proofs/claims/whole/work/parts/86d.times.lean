/-! REGISTERS: set, times, trim, divide. -/
theorem upd_s {f : Nat → Int32} {k : Nat} {v : Int32} : upd f k v k = v := if_pos rfl
theorem upd_n {f : Nat → Int32} {k i : Nat} {v : Int32} (h : ¬ i = k) : upd f k v i = f i := if_neg h
theorem upd_self {f : Nat → Int32} {k : Nat} : upd f k (f k) = f := by
  funext i
  by_cases e : i = k
  · rw [e, upd_s]
  · rw [upd_n e]
theorem upd_upd {f : Nat → Int32} {k : Nat} {v w : Int32} : upd (upd f k v) k w = upd f k w := by
  funext i
  by_cases e : i = k
  · rw [e, upd_s, upd_s]
  · rw [upd_n e, upd_n e, upd_n e]
theorem fq_self {fl : Nat → Int64} {a : Nat} : fill fl a 40 (fun k => fl (a + k)) = fl := by
  funext j
  unfold fill
  by_cases c : a ≤ j ∧ j < a + 40
  · rw [if_pos c]
    show fl (a + (j - a)) = fl j
    congr 1
    omega
  · rw [if_neg c]
theorem fq_up {fl g : Nat → Int64} {a k : Nat} {z : Int64} (hk : k < 40) : vp_updL (fill fl a 40 g) (a + k) z = fill fl a 40 (vp_updL g k z) := by
  funext j
  show (if j = a + k then z else fill fl a 40 g j) = fill fl a 40 (fun i => if i = k then z else g i) j
  unfold fill
  by_cases e : j = a + k
  · rw [if_pos e, if_pos (by omega)]
    exact (if_pos (show j - a = k by omega)).symm
  · rw [if_neg e]
    by_cases c : a ≤ j ∧ j < a + 40
    · rw [if_pos c, if_pos c]
      exact (if_neg (show ¬ j - a = k by omega)).symm
    · rw [if_neg c, if_neg c]
def RV (g : Nat → Int64) (u V : Nat) : Prop := u ≤ 40 ∧ lok g u ∧ nrm g u ∧ nv g u = V ∧ ∀ k, u ≤ k → k < 40 → g k = 0
section TMS
variable {B : Nat} {X : pm_X} {h h' : pm_H} {Q : Option Value → pm_H → Prop} {m lo hi r n p q : Nat} {fl f : Nat → Int64} {fu fs fw : Nat → Int32} {g : Rg} {R : Nat → Rg}
theorem RG.rv (n1 : RG fl fu fs fw r g) : ∃ u, RV (fun k => fl (40 * r + k)) u g.2.1 ∧ fu r = nI u := by
  obtain ⟨u, a1, a2, a3, a4, a5, a6, a7, a8⟩ := n1
  exact ⟨u, ⟨a1, a2, a3, a4, a5⟩, a6⟩
/-- one register's digits and sign are set anew -/
theorem NS.dig (n1 : ∀ r, r < 8 → RG fl fu fs fw r (R r)) (hr : r < 8) {g : Nat → Int64} {u V : Nat} {s : Int32} (hv : RV g u V) : ∀ j, j < 8 → RG (fill fl (40 * r) 40 g) (upd fu r (nI u)) (upd fs r s) fw j (ups R r (s, V, (R r).2.2) j) := by
  intro j hj
  by_cases e : j = r
  · subst e
    rw [ups_s]
    obtain ⟨_, _, _, _, _, _, _, _, a8⟩ := n1 j hj
    obtain ⟨v1, v2, v3, v4, v5⟩ := hv
    have ee : ∀ i, i < u → (fun k => fill fl (40 * j) 40 g (40 * j + k)) i = g i := fun i hi => fill_in (show i < 40 by omega)
    refine ⟨u, v1, lok_congr ee v2, ?_, ?_, fun k k1 k2 => (fill_in k2).trans (v5 k k1 k2), upd_s, upd_s, a8⟩
    · unfold nrm
      rw [tl_congr ee]
      exact v3
    · rw [nv_congr (fun i hi => dg_eq (ee i hi))]
      exact v4
  · rw [ups_n e]
    exact (n1 j hj).oth (fun k hk => fill_out (by omega)) (upd_n e) (upd_n e) (fun k hk => rfl)
/-- one power is set anew -/
theorem NS.pow (n1 : ∀ r, r < 8 → RG fl fu fs fw r (R r)) (hr : r < 8) {k x : Nat} (hk : k < 168) (hx : x < 2 ^ 20) : ∀ j, j < 8 → RG fl fu fs (upd fw (168 * r + k) (nI x)) j (ups R r ((R r).1, (R r).2.1, ups (R r).2.2 k x) j) := by
  intro j hj
  by_cases e : j = r
  · subst e
    rw [ups_s]
    obtain ⟨u, a1, a2, a3, a4, a5, a6, a7, a8⟩ := n1 j hj
    refine ⟨u, a1, a2, a3, a4, a5, a6, a7, fun i hi => ?_⟩
    by_cases c : i = k
    · subst c
      rw [upd_s]
      show _ = nI (ups (R j).2.2 i x i) ∧ ups (R j).2.2 i x i < 2 ^ 20
      rw [ups_s]
      exact ⟨rfl, hx⟩
    · rw [upd_n (by omega)]
      show _ = nI (ups (R j).2.2 k x i) ∧ ups (R j).2.2 k x i < 2 ^ 20
      rw [ups_n c]
      exact a8 i hi
  · rw [ups_n e]
    exact (n1 j hj).oth (fun k hk => rfl) rfl rfl (fun i hi => upd_n (by omega))
theorem c_set {v : Int32} (n1 : NS B h m R) (hr : r < 8) (hv : v.toInt.natAbs < 1000000000) (hQ : ∀ h', NS B h' m (ups R r (sg v.toInt, v.toInt.natAbs, fun _ => 0)) → Frm B h h' (m + 18) (m + 22) → Q none h') : PW B X 111 0 [some (.ref m), some (.int (nI r)), some (.int v)] [] h Q := by
  simp only [u_111_0, u_111_0n, u_111_1, u_111_2, pm_O_some, pm_w_nil, pm_w_i, pm_w_l, pm_w_r, pm_w_n, pm_c_n, pm_c_i, pm_c_l, pm_c_r, pm_c_u, Nat.reduceAdd, Nat.reduceLeDiff, true_and, Option.toList_some, Option.toList_none, List.cons_append, List.nil_append, n1.io]
  refine c_zero n1 hr (fun h' n2 F => ?_)
  obtain ⟨fl, fu, fs, fw, n2, n3⟩ := n2
  have ev : (if 0 ≤ v then v.toInt64 else (-v).toInt64) = lN v.toInt.natAbs := by
    rw [iL, iL]
    by_cases c : 0 ≤ v
    · rw [if_pos c, ← lI_N]
      congr 1
      have := i_le.mp c
      have : (0 : Int32).toInt = 0 := rfl
      omega
    · rw [if_neg c, i_neg (by omega), ← lI_N]
      congr 1
      have := i_lt.mp (i_nle.mp c)
      have : (0 : Int32).toInt = 0 := rfl
      omega
  have key : ∀ zl xu xs, zl = lN v.toInt.natAbs → xu = (if v = 0 then (0 : Int32) else 1) → xs = sg v.toInt → NS B (pm_set B (pm_set B (pm_set B h' (m + 18) (.inl (1, 320, .inr (.inl (vp_updL fl (40 * r) zl))))) (m + 19) (.inl (0, 8, .inl (upd fu r xu)))) (m + 20) (.inl (0, 8, .inl (upd fs r xs)))) m (ups R r (sg v.toInt, v.toInt.natAbs, fun _ => 0)) ∧ Frm B h' (pm_set B (pm_set B (pm_set B h' (m + 18) (.inl (1, 320, .inr (.inl (vp_updL fl (40 * r) zl))))) (m + 19) (.inl (0, 8, .inl (upd fu r xu)))) (m + 20) (.inl (0, 8, .inl (upd fs r xs)))) (m + 18) (m + 22) := by
    intro zl xu xs e1 e2 e3
    obtain ⟨y1, y2⟩ := n2.setl (vp_updL fl (40 * r) zl)
    obtain ⟨w1, w2⟩ := y1.setu (upd fu r xu)
    obtain ⟨v1, v2⟩ := w1.sets (upd fs r xs)
    refine ⟨?_, (y2.trans w2).trans v2⟩
    have t1 : vp_updL fl (40 * r) zl = fill fl (40 * r) 40 (vp_updL (fun _ => 0) 0 zl) := by
      have := fq_up (fl := fl) (g := fun k => fl (40 * r + k)) (a := 40 * r) (k := 0) (z := zl) (by omega)
      rw [fq_self, Nat.add_zero] at this
      rw [this]
      funext j
      unfold fill
      by_cases c : 40 * r ≤ j ∧ j < 40 * r + 40
      · rw [if_pos c, if_pos c]
        show (if j - 40 * r = 0 then zl else fl (40 * r + (j - 40 * r))) = if j - 40 * r = 0 then zl else 0
        by_cases c2 : j - 40 * r = 0
        · rw [if_pos c2, if_pos c2]
        · rw [if_neg c2, if_neg c2]
          have := n3 r hr
          rw [ups_s] at this
          obtain ⟨u, a1, a2, a3, a4, a5, a6, a7, a8⟩ := this
          have hu : u = 0 := by
            rcases val_nrm a2 a3 with z | z
            · exact z
            · rw [a4] at z
              have : 0 < 1000000000 ^ (u - 1) := Nat.pow_pos (by decide)
              have : (0 : Nat) = ((0 : Int32), 0, fun _ : Nat => 0).2.1 := rfl
              omega
          exact a5 _ (by omega) (by omega)
      · rw [if_neg c, if_neg c]
    have hvv : RV (vp_updL (fun _ => 0) 0 zl) (if v = 0 then 0 else 1) v.toInt.natAbs := by
      have d0 : dg (vp_updL (fun _ => 0) 0 zl) 0 = v.toInt.natAbs := by rw [e1]; exact dg_us (by omega)
      by_cases c : v = 0
      · rw [if_pos c]
        subst c
        refine ⟨by omega, fun i hi => by omega, rfl, rfl, fun k _ _ => ?_⟩
        show (if k = 0 then zl else 0) = 0
        rw [e1]
        split <;> rfl
      · rw [if_neg c]
        have c0 : v.toInt ≠ 0 := fun z => c (Int32.toInt_inj.mp z)
        refine ⟨by omega, fun i hi => ?_, ?_, ?_, fun k k1 _ => ?_⟩
        · obtain rfl : i = 0 := by omega
          rw [d0]
          exact ⟨(if_pos rfl).trans e1, hv⟩
        · refine nrm_of (Or.inr ?_)
          show ¬ (if (0 : Nat) = 0 then zl else 0) = 0
          rw [if_pos rfl, e1]
          exact l_ne0 (by omega) (by omega)
        · show nv _ 0 + dg _ 0 * 1000000000 ^ 0 = _
          rw [d0]
          simp [nv]
        · exact if_neg (by omega)
    have t2 : xu = nI (if v = 0 then 0 else 1) := by
      rw [e2]
      split <;> rfl
    rw [t1, t2, e3] at v1
    have t3 := NS.dig n3 hr (s := sg v.toInt) hvv
    rw [t1, t2, e3]
    refine ⟨_, _, _, _, v1, fun j hj => ?_⟩
    have := t3 j hj
    by_cases c : j = r
    · subst c
      rw [ups_s] at this ⊢
      rw [ups_s] at this
      exact this
    · rw [ups_n c] at this ⊢
      rw [ups_n c] at this
      exact this
  have a1 := n2.2.2.1
  have e0 : (40 : Int32) * nI r = nI (40 * r) := x40r
  have sgv : ∀ {α : Type} {a b c : α}, (if 0 ≤ v then (if v ≤ 0 then a else b) else c) = (if v.toInt < 0 then c else if v.toInt = 0 then a else b) := by
    intro α a b c
    have z0 : (0 : Int32).toInt = 0 := rfl
    by_cases c1 : v.toInt < 0
    · rw [if_pos c1, if_neg (fun z => by have := i_le.mp z; omega)]
    · rw [if_neg c1, if_pos (i_le.mpr (by omega))]
      by_cases c2 : v.toInt = 0
      · rw [if_pos c2, if_pos (i_le.mpr (by omega))]
      · rw [if_neg c2, if_neg (fun z => by have := i_le.mp z; omega)]
  have fin : ∀ zl xu xs, zl = lN v.toInt.natAbs → xu = (if v = 0 then (0 : Int32) else 1) → xs = sg v.toInt → Q none (pm_set B (pm_set B (pm_set B h' (m + 18) (.inl (1, 320, .inr (.inl (vp_updL fl (40 * r) zl))))) (m + 19) (.inl (0, 8, .inl (upd fu r xu)))) (m + 20) (.inl (0, 8, .inl (upd fs r xs)))) := by
    intro zl xu xs e1 e2 e3
    obtain ⟨k1, k2⟩ := key zl xu xs e1 e2 e3
    exact hQ _ k1 (F.trans k2)
  have st3 : ∀ zl, zl = lN v.toInt.natAbs → PW B X 111 26 [some (.ref m), some (.int (nI r)), some (.int v)] [] (pm_set B h' (m + 18) (.inl (1, 320, .inr (.inl (vp_updL fl (40 * r) zl))))) Q := by
    intro zl hzl
    obtain ⟨y1, y2⟩ := n2.setl (vp_updL fl (40 * r) zl)
    have a2 := y1.2.2.2.1
    have st2 : ∀ xu, xu = (if v = 0 then (0 : Int32) else 1) → PW B X 111 41 [some (.ref m), some (.int (nI r)), some (.int v)] [] (pm_set B (pm_set B h' (m + 18) (.inl (1, 320, .inr (.inl (vp_updL fl (40 * r) zl))))) (m + 19) (.inl (0, 8, .inl (upd fu r xu)))) Q := by
      intro xu hxu
      obtain ⟨w1, w2⟩ := y1.setu (upd fu r xu)
      have a3 := w1.2.2.2.2.1
      have z0 : (0 : Int32).toInt = 0 := rfl
      by_cases c1 : 0 ≤ v
      · by_cases c2 : v ≤ 0
        · simp only [u_111_41, u_111_41n, u_111_42, u_111_45, u_111_46, u_111_47, u_111_50, u_111_51, u_111_54, u_111_55, u_111_58, u_111_59, u_111_62, u_111_63, u_111_64, pm_O_some, pm_w_nil, pm_w_i, pm_w_l, pm_w_r, pm_w_n, pm_c_n, pm_c_i, pm_c_l, pm_c_r, pm_c_u, Nat.reduceAdd, Nat.reduceLeDiff, true_and, Option.toList_some, Option.toList_none, List.cons_append, List.nil_append, w1.f29, a3, st_i (t := 0) (ix_8 hr) rfl, nI_clamp (show r < 2 ^ 31 by omega), ty_0, if_pos c1, if_pos c2]
          refine fin _ _ _ hzl hxu ?_
          have := sgv (a := (0 : Int32)) (b := 1) (c := -1)
          rw [if_pos c1, if_pos c2] at this
          exact this
        · simp only [u_111_41, u_111_41n, u_111_42, u_111_45, u_111_46, u_111_47, u_111_50, u_111_51, u_111_54, u_111_55, u_111_58, u_111_59, u_111_62, u_111_63, u_111_64, pm_O_some, pm_w_nil, pm_w_i, pm_w_l, pm_w_r, pm_w_n, pm_c_n, pm_c_i, pm_c_l, pm_c_r, pm_c_u, Nat.reduceAdd, Nat.reduceLeDiff, true_and, Option.toList_some, Option.toList_none, List.cons_append, List.nil_append, w1.f29, a3, st_i (t := 0) (ix_8 hr) rfl, nI_clamp (show r < 2 ^ 31 by omega), ty_0, if_pos c1, if_neg c2]
          refine fin _ _ _ hzl hxu ?_
          have := sgv (a := (0 : Int32)) (b := 1) (c := -1)
          rw [if_pos c1, if_neg c2] at this
          exact this
      · simp only [u_111_41, u_111_41n, u_111_42, u_111_45, u_111_46, u_111_47, u_111_50, u_111_51, u_111_54, u_111_55, u_111_58, u_111_59, u_111_62, u_111_63, u_111_64, pm_O_some, pm_w_nil, pm_w_i, pm_w_l, pm_w_r, pm_w_n, pm_c_n, pm_c_i, pm_c_l, pm_c_r, pm_c_u, Nat.reduceAdd, Nat.reduceLeDiff, true_and, Option.toList_some, Option.toList_none, List.cons_append, List.nil_append, w1.f29, a3, st_i (t := 0) (ix_8 hr) rfl, nI_clamp (show r < 2 ^ 31 by omega), ty_0, if_neg c1]
        refine fin _ _ _ hzl hxu ?_
        have := sgv (a := (0 : Int32)) (b := 1) (c := -1)
        rw [if_neg c1] at this
        exact this
    by_cases c : v = 0
    · have c' : ¬ (¬ v = 0) := fun z => z c
      rw [u_111_26]
      simp only [u_111_27, u_111_30, u_111_31, u_111_32, u_111_35, u_111_36, u_111_39, u_111_40, pm_O_some, pm_w_nil, pm_w_i, pm_w_l, pm_w_r, pm_w_n, pm_c_n, pm_c_i, pm_c_l, pm_c_r, pm_c_u, Nat.reduceAdd, Nat.reduceLeDiff, true_and, Option.toList_some, Option.toList_none, List.cons_append, List.nil_append, y1.f28, a2, st_i (t := 0) (ix_8 hr) rfl, nI_clamp (show r < 2 ^ 31 by omega), ty_0, if_neg c']
      exact st2 0 (by rw [if_pos c])
    · rw [u_111_26]
      simp only [u_111_27, u_111_30, u_111_31, u_111_32, u_111_35, u_111_36, u_111_39, u_111_40, pm_O_some, pm_w_nil, pm_w_i, pm_w_l, pm_w_r, pm_w_n, pm_c_n, pm_c_i, pm_c_l, pm_c_r, pm_c_u, Nat.reduceAdd, Nat.reduceLeDiff, true_and, Option.toList_some, Option.toList_none, List.cons_append, List.nil_append, y1.f28, a2, st_i (t := 0) (ix_8 hr) rfl, nI_clamp (show r < 2 ^ 31 by omega), ty_0, if_pos c]
      exact st2 1 (by rw [if_neg c])
  by_cases c1 : 0 ≤ v
  · rw [if_pos c1] at ev
    simp only [u_111_5, u_111_5n, u_111_6, u_111_9, u_111_11, u_111_12, u_111_13, u_111_14, u_111_17, u_111_18, u_111_19, u_111_20, u_111_23, u_111_24, u_111_25, pm_O_some, pm_w_nil, pm_w_i, pm_w_l, pm_w_r, pm_w_n, pm_c_n, pm_c_i, pm_c_l, pm_c_r, pm_c_u, Nat.reduceAdd, Nat.reduceLeDiff, true_and, Option.toList_some, Option.toList_none, List.cons_append, List.nil_append, n2.f27, a1, e0, st_l (ix_320 (show 40 * r < 320 by omega)), nI_clamp (show 40 * r < 2 ^ 31 by omega), if_pos c1]
    exact st3 _ ev
  · rw [if_neg c1] at ev
    simp only [u_111_5, u_111_5n, u_111_6, u_111_9, u_111_11, u_111_12, u_111_13, u_111_14, u_111_17, u_111_18, u_111_19, u_111_20, u_111_23, u_111_24, u_111_25, pm_O_some, pm_w_nil, pm_w_i, pm_w_l, pm_w_r, pm_w_n, pm_c_n, pm_c_i, pm_c_l, pm_c_r, pm_c_u, Nat.reduceAdd, Nat.reduceLeDiff, true_and, Option.toList_some, Option.toList_none, List.cons_append, List.nil_append, n2.f27, a1, e0, st_l (ix_320 (show 40 * r < 320 by omega)), nI_clamp (show 40 * r < 2 ^ 31 by omega), if_neg c1]
    exact st3 _ ev
theorem z_times (n1 : NA B h m (fill fl (40 * r) 40 f) (upd fu r (nI n)) fs fw) (hr : r < 8) {V : Nat} (hv : RV f n V) (hp : 0 < p) (hm : p < 1000000000) (hb : V * p < 1000000000 ^ 40) (hQ : ∀ h' g u, NA B h' m (fill fl (40 * r) 40 g) (upd fu r (nI u)) fs fw → Frm B h h' (m + 18) (m + 22) → RV g u (V * p) → Q none h') : PW B X 112 0 [some (.ref m), some (.int (nI r)), some (.int (nI p)), none, none, none, none, none] [] h Q := by
  obtain ⟨hn, hl, hrm, hV, hz⟩ := hv
  have loop : ∀ d i c fi w6 w7 hc, i + d = n → c < 1000000000 → lok fi n → (∀ j, i ≤ j → j < 40 → fi j = f j) → nv fi i + c * 1000000000 ^ i = nv f i * p → NA B hc m (fill fl (40 * r) 40 fi) (upd fu r (nI n)) fs fw → Frm B h hc (m + 18) (m + 22) →
      PW B X 112 5 [some (.ref m), some (.int (nI r)), some (.int (nI p)), some (.long (lN c)), none, some (.int (nI i)), w6, w7] [] hc Q := by
    intro d
    induction d with
    | zero =>
      intro i c fi w6 w7 hc hi hcl hfi hs hv m1 m2
      obtain rfl : i = n := by omega
      have e2 : nI i ≤ nI i := nI_le (Nat.le_refl _) (by omega)
      have a1 := m1.2.2.1
      have a2 := m1.2.2.2.1
      simp only [u_112_5, u_112_7, u_112_7n, u_112_8, u_112_11, u_112_12, u_112_13, u_112_66, u_112_67, u_112_68, u_112_69, pm_O_some, pm_w_nil, pm_w_i, pm_w_l, pm_w_r, pm_w_n, pm_c_n, pm_c_i, pm_c_l, pm_c_r, pm_c_u, Nat.reduceAdd, Nat.reduceLeDiff, true_and, Option.toList_some, Option.toList_none, List.cons_append, List.nil_append, m1.f28, a2, ld_i (t := 0) (ix_8 hr) rfl, nI_clamp (show r < 2 ^ 31 by omega), upd_s, if_pos e2, lg_cmp_le, l_le0 (show c < 2 ^ 63 by omega)]
      by_cases hc0 : c = 0
      · rw [if_pos hc0]
        simp only [u_112_99]
        have hv2 : nv fi i = V * p := by rw [← hV, ← hv, hc0]; simp
        refine hQ _ fi i m1 m2 ⟨hn, hfi, ?_, hv2, fun k k1 k2 => by rw [hs k k1 k2]; exact hz k k1 k2⟩
        refine nrm_val hfi ?_
        rcases val_nrm hl hrm with z | z
        · exact Or.inl z
        · refine Or.inr ?_
          rw [hv2, ← hV]
          exact Nat.le_trans z (Nat.le_mul_of_pos_right _ hp)
      · rw [if_neg hc0]
        have hlt : i < 40 := by
          rcases Nat.lt_or_ge i 40 with z | z
          · exact z
          · obtain rfl : i = 40 := by omega
            have : 1000000000 ^ 40 ≤ c * 1000000000 ^ 40 := Nat.le_mul_of_pos_left _ (by omega)
            rw [hV] at hv
            omega
        simp only [u_112_72, u_112_72n, u_112_73, u_112_76, u_112_78, u_112_79, u_112_80, u_112_80n, u_112_81, u_112_84, u_112_85, u_112_86, u_112_87, u_112_88, pm_O_some, pm_w_nil, pm_w_i, pm_w_l, pm_w_r, pm_w_n, pm_c_n, pm_c_i, pm_c_l, pm_c_r, pm_c_u, Nat.reduceAdd, Nat.reduceLeDiff, true_and, Option.toList_some, Option.toList_none, List.cons_append, List.nil_append, m1.f28, m1.f27, a1, a2, x40, ld_i (t := 0) (ix_8 hr) rfl, nI_clamp (show r < 2 ^ 31 by omega), upd_s, st_l (ix_320 (show 40 * r + i < 320 by omega)), nI_clamp (show 40 * r + i < 2 ^ 31 by omega), fq_up hlt]
        obtain ⟨y1, y2⟩ := m1.setl (fill fl (40 * r) 40 (vp_updL fi i (lN c)))
        have a3 := y1.2.2.2.1
        simp only [u_112_89, u_112_89n, u_112_90, u_112_93, u_112_94, u_112_95, u_112_96, u_112_97, u_112_98, u_112_99, pm_O_some, pm_w_nil, pm_w_i, pm_w_l, pm_w_r, pm_w_n, pm_c_n, pm_c_i, pm_c_l, pm_c_r, pm_c_u, Nat.reduceAdd, Nat.reduceLeDiff, true_and, Option.toList_some, Option.toList_none, List.cons_append, List.nil_append, y1.f28, a3, ld_i (t := 0) (ix_8 hr) rfl, st_i (t := 0) (ix_8 hr) rfl, ty_0, nI_clamp (show r < 2 ^ 31 by omega), upd_s, nI_1, upd_upd]
        obtain ⟨w1, w2⟩ := y1.setu (upd fu r (nI (i + 1)))
        refine hQ _ _ (i + 1) w1 ((m2.trans y2).trans w2) ⟨hlt, lok_push hfi hcl, ?_, ?_, fun k k1 k2 => ?_⟩
        · refine nrm_of (Or.inr ?_)
          show ¬ (if i + 1 - 1 = i then lN c else fi (i + 1 - 1)) = 0
          rw [if_pos (by omega)]
          exact l_ne0 (by omega) (by omega)
        · rw [nv, nv_up (Nat.le_refl _), dg_us (by omega), hv, hV]
        · rw [pk_uLn (by omega), hs k (by omega) k2]
          exact hz k (by omega) k2
    | succ d ih =>
      intro i c fi w6 w7 hc hi hcl hfi hs hv m1 m2
      have hin : i < n := by omega
      have e2 : ¬ nI n ≤ nI i := nI_ge hin (by omega)
      have hd := hfi i hin
      have hfd : fi i = f i := hs i (Nat.le_refl _) (by omega)
      have hdm : dg fi i * p ≤ (1000000000 - 1) * (1000000000 - 1) := Nat.mul_le_mul (by omega) (by omega)
      have hsm : dg fi i * p + c < 2 ^ 63 := by omega
      have a1 := m1.2.2.1
      have a2 := m1.2.2.2.1
      rw [u_112_5]
      simp only [u_112_7, u_112_7n, u_112_8, u_112_11, u_112_12, u_112_13, u_112_16, u_112_16n, u_112_17, u_112_20, u_112_22, u_112_23, u_112_24, u_112_26, u_112_27, u_112_28, u_112_29, u_112_30, u_112_31, u_112_32, u_112_33, u_112_35, u_112_35n, u_112_36, u_112_39, u_112_41, u_112_42, u_112_43, u_112_45, u_112_46, u_112_48, u_112_51, u_112_52, u_112_53, u_112_55, u_112_58, u_112_59, u_112_60, u_112_63, pm_O_some, pm_w_nil, pm_w_i, pm_w_l, pm_w_r, pm_w_n, pm_c_n, pm_c_i, pm_c_l, pm_c_r, pm_c_u, Nat.reduceAdd, Nat.reduceLeDiff, true_and, Option.toList_some, Option.toList_none, List.cons_append, List.nil_append, m1.f28, m1.f27, a1, a2, x40, ld_i (t := 0) (ix_8 hr) rfl, nI_clamp (show r < 2 ^ 31 by omega), upd_s, if_neg e2, ld_l (ix_320 (show 40 * r + i < 320 by omega)), st_l (ix_320 (show 40 * r + i < 320 by omega)), nI_clamp (show 40 * r + i < 2 ^ 31 by omega), fill_in (show i < 40 by omega), lB0, not_false_eq_true, fq_up (show i < 40 by omega)]
      rw [hd.1, nI_l (by omega), lN_mul, lN_add, lB, pk_lRem hsm (by decide) (by decide), pk_lDiv hsm (by decide) (by decide), nI_1]
      obtain ⟨y1, y2⟩ := m1.setl (fill fl (40 * r) 40 (vp_updL fi i (lN ((dg fi i * p + c) % 1000000000))))
      refine ih (i + 1) _ _ _ _ _ (by omega) ?_ (lok_up hfi (Nat.mod_lt _ (by decide))) (fun j h1 h2 => by rw [pk_uLn (by omega)]; exact hs j (by omega) h2) ?_ y1 (m2.trans y2)
      · exact Nat.div_lt_of_lt_mul (by omega)
      · have e := Nat.div_add_mod (dg fi i * p + c) 1000000000
        have hdd : dg fi i = dg f i := by unfold dg; rw [hfd]
        rw [nv, nv_up (Nat.le_refl _), dg_us (Nat.lt_trans (Nat.mod_lt _ (by decide)) (by decide)), nv, Nat.add_mul, ← hv, ← hdd, Nat.pow_succ]
        generalize (dg fi i * p + c) / 1000000000 = qq at e ⊢
        generalize (dg fi i * p + c) % 1000000000 = rr at e ⊢
        have e3 : qq * (1000000000 ^ i * 1000000000) = (1000000000 * qq) * 1000000000 ^ i := by rw [Nat.mul_comm (1000000000 ^ i) 1000000000, ← Nat.mul_assoc, Nat.mul_comm qq 1000000000]
        have e4 : dg fi i * 1000000000 ^ i * p = (dg fi i * p) * 1000000000 ^ i := by rw [Nat.mul_right_comm]
        rw [e3, e4, Nat.add_assoc, ← Nat.add_mul, Nat.add_assoc, ← Nat.add_mul]
        congr 2
        omega
  simp only [u_112_0, u_112_1, u_112_2, u_112_3, pm_O_some, pm_w_nil, pm_w_i, pm_w_l, pm_w_r, pm_w_n, pm_c_n, pm_c_i, pm_c_l, pm_c_r, pm_c_u, Nat.reduceAdd, Nat.reduceLeDiff, true_and, Option.toList_some, Option.toList_none, List.cons_append, List.nil_append]
  exact loop n 0 0 f none none h (by omega) (by decide) hl (fun _ _ _ => rfl) (by simp [nv]) n1 Frm.rfl'
theorem c_times (n1 : NS B h m R) (hr : r < 8) (hp : 0 < p) (hm : p < 1000000000) (hb : (R r).2.1 * p < 1000000000 ^ 40) (hQ : ∀ h', NS B h' m (ups R r ((R r).1, (R r).2.1 * p, (R r).2.2)) → Frm B h h' (m + 18) (m + 22) → Q none h') : PW B X 112 0 [some (.ref m), some (.int (nI r)), some (.int (nI p)), none, none, none, none, none] [] h Q := by
  obtain ⟨fl, fu, fs, fw, n2, n3⟩ := n1
  obtain ⟨u, hv, hu⟩ := (n3 r hr).rv
  have e1 : fill fl (40 * r) 40 (fun k => fl (40 * r + k)) = fl := fq_self
  have e2 : upd fu r (nI u) = fu := by rw [← hu]; exact upd_self
  have e3 : upd fs r (R r).1 = fs := by
    obtain ⟨_, _, _, _, _, _, _, a7, _⟩ := n3 r hr
    rw [← a7]
    exact upd_self
  have n4 : NA B h m (fill fl (40 * r) 40 (fun k => fl (40 * r + k))) (upd fu r (nI u)) fs fw := by rw [e1, e2]; exact n2
  refine z_times n4 hr hv hp hm hb (fun h' g u' k1 k2 k3 => hQ h' ⟨_, _, _, _, k1, ?_⟩ k2)
  have := NS.dig n3 hr (s := (R r).1) k3
  rw [e3] at this
  exact this
end TMS

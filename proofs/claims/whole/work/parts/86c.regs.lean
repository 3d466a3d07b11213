/-! REGISTERS: arrays (NA), one register (RG), all of them (NS); zero, copy, set. -/
def NA (B : Nat) (h : pm_H) (m : Nat) (fl : Nat → Int64) (fu fs fw : Nat → Int32) : Prop := (∃ x0 x7 x8 x9 x10 x13 x19 x21 x24 x25 x31 x32, MC B h m x0 x7 x8 x9 x10 x13 x19 x21 x24 x25 x31 x32) ∧ (∃ fp, pm_at B h (m + 17) = some (.inl (0, 168, .inl fp)) ∧ ∀ k, k < 168 → fp k = nI (pr k)) ∧ pm_at B h (m + 18) = some (.inl (1, 320, .inr (.inl fl))) ∧ pm_at B h (m + 19) = some (.inl (0, 8, .inl fu)) ∧ pm_at B h (m + 20) = some (.inl (0, 8, .inl fs)) ∧ pm_at B h (m + 21) = some (.inl (0, 1344, .inl fw))
abbrev Rg : Type := Int32 × Nat × (Nat → Nat)
def RG (fl : Nat → Int64) (fu fs fw : Nat → Int32) (r : Nat) (g : Rg) : Prop := ∃ u, u ≤ 40 ∧ lok (fun k => fl (40 * r + k)) u ∧ nrm (fun k => fl (40 * r + k)) u ∧ nv (fun k => fl (40 * r + k)) u = g.2.1 ∧ (∀ k, u ≤ k → k < 40 → fl (40 * r + k) = 0) ∧ fu r = nI u ∧ fs r = g.1 ∧ ∀ k, k < 168 → fw (168 * r + k) = nI (g.2.2 k) ∧ g.2.2 k < 2 ^ 20
def NS (B : Nat) (h : pm_H) (m : Nat) (R : Nat → Rg) : Prop := ∃ fl fu fs fw, NA B h m fl fu fs fw ∧ ∀ r, r < 8 → RG fl fu fs fw r (R r)
def fill {α : Type} (f : Nat → α) (a n : Nat) (v : Nat → α) : Nat → α := fun j => if a ≤ j ∧ j < a + n then v (j - a) else f j
theorem fill_0 {α : Type} {f : Nat → α} {a : Nat} {v : Nat → α} : fill f a 0 v = f := by
  funext j
  exact if_neg (by omega)
theorem fill_L {f : Nat → Int64} {a n : Nat} {v : Nat → Int64} {z : Int64} (hz : z = v n) : vp_updL (fill f a n v) (a + n) z = fill f a (n + 1) v := by
  funext j
  show (if j = a + n then z else fill f a n v j) = _
  unfold fill
  by_cases e : j = a + n
  · rw [if_pos e, if_pos (by omega), e, Nat.add_sub_cancel_left, hz]
  · rw [if_neg e]
    by_cases c : a ≤ j ∧ j < a + n
    · rw [if_pos c, if_pos (by omega)]
    · rw [if_neg c, if_neg (by omega)]
theorem fill_I {f : Nat → Int32} {a n : Nat} {v : Nat → Int32} {z : Int32} (hz : z = v n) : upd (fill f a n v) (a + n) z = fill f a (n + 1) v := by
  funext j
  show (if j = a + n then z else fill f a n v j) = _
  unfold fill
  by_cases e : j = a + n
  · rw [if_pos e, if_pos (by omega), e, Nat.add_sub_cancel_left, hz]
  · rw [if_neg e]
    by_cases c : a ≤ j ∧ j < a + n
    · rw [if_pos c, if_pos (by omega)]
    · rw [if_neg c, if_neg (by omega)]
theorem fill_in {α : Type} {f : Nat → α} {a n k : Nat} {v : Nat → α} (h : k < n) : fill f a n v (a + k) = v k := by
  unfold fill
  rw [if_pos (by omega), Nat.add_sub_cancel_left]
theorem fill_out {α : Type} {f : Nat → α} {a n j : Nat} {v : Nat → α} (h : j < a ∨ a + n ≤ j) : fill f a n v j = f j := if_neg (by omega)
theorem x40 {r k : Nat} : (40 : Int32) * nI r + nI k = nI (40 * r + k) := by
  show nI 40 * nI r + nI k = _
  rw [nI_mul, nI_add]
theorem x40r {r : Nat} : (40 : Int32) * nI r = nI (40 * r) := by
  show nI 40 * nI r = _
  rw [nI_mul]
theorem x168 {r k : Nat} : (168 : Int32) * nI r + nI k = nI (168 * r + k) := by
  show nI 168 * nI r + nI k = _
  rw [nI_mul, nI_add]
theorem lok_congr {f g : Nat → Int64} {n : Nat} (h : ∀ i, i < n → g i = f i) (hl : lok f n) : lok g n := fun i hi => by
  rw [dg_eq (h i hi), h i hi]
  exact hl i hi
section NAS
variable {B : Nat} {X : pm_X} {h h' : pm_H} {Q : Option Value → pm_H → Prop} {m lo hi r p q : Nat} {fl fl' : Nat → Int64} {fu fs fw fu' fs' fw' : Nat → Int32} {g : Rg} {R : Nat → Rg}
theorem RG.oth (n1 : RG fl fu fs fw r g) (h1 : ∀ k, k < 40 → fl' (40 * r + k) = fl (40 * r + k)) (h2 : fu' r = fu r) (h3 : fs' r = fs r) (h4 : ∀ k, k < 168 → fw' (168 * r + k) = fw (168 * r + k)) : RG fl' fu' fs' fw' r g := by
  obtain ⟨u, a1, a2, a3, a4, a5, a6, a7, a8⟩ := n1
  have e : ∀ i, i < u → (fun k => fl' (40 * r + k)) i = (fun k => fl (40 * r + k)) i := fun i hi => h1 i (by omega)
  refine ⟨u, a1, lok_congr e a2, ?_, ?_, fun k k1 k2 => by rw [h1 k k2]; exact a5 k k1 k2, h2.trans a6, h3.trans a7, fun k hk => by rw [h4 k hk]; exact a8 k hk⟩
  · unfold nrm
    rw [tl_congr e]
    exact a3
  · rw [nv_congr (fun i hi => dg_eq (e i hi))]
    exact a4
theorem NA.io (n1 : NA B h m fl fu fs fw) : pm_io B h m 10 = true := by
  obtain ⟨⟨_, _, _, _, _, _, _, _, _, _, _, _, c⟩, _⟩ := n1
  exact c.io
theorem NA.f26 (n1 : NA B h m fl fu fs fw) : pm_gf (pm_at B h m) 10 26 = some (.ref (m + 17)) := by
  obtain ⟨⟨_, _, _, _, _, _, _, _, _, _, _, _, c⟩, _⟩ := n1
  exact c.g26
theorem NA.f27 (n1 : NA B h m fl fu fs fw) : pm_gf (pm_at B h m) 10 27 = some (.ref (m + 18)) := by
  obtain ⟨⟨_, _, _, _, _, _, _, _, _, _, _, _, c⟩, _⟩ := n1
  exact c.g27
theorem NA.f28 (n1 : NA B h m fl fu fs fw) : pm_gf (pm_at B h m) 10 28 = some (.ref (m + 19)) := by
  obtain ⟨⟨_, _, _, _, _, _, _, _, _, _, _, _, c⟩, _⟩ := n1
  exact c.g28
theorem NA.f29 (n1 : NA B h m fl fu fs fw) : pm_gf (pm_at B h m) 10 29 = some (.ref (m + 20)) := by
  obtain ⟨⟨_, _, _, _, _, _, _, _, _, _, _, _, c⟩, _⟩ := n1
  exact c.g29
theorem NA.f30 (n1 : NA B h m fl fu fs fw) : pm_gf (pm_at B h m) 10 30 = some (.ref (m + 21)) := by
  obtain ⟨⟨_, _, _, _, _, _, _, _, _, _, _, _, c⟩, _⟩ := n1
  exact c.g30
theorem NA.frm (n1 : NA B h m fl fu fs fw) (F : Frm B h h' lo hi) (d : hi ≤ m ∨ m + 22 ≤ lo ∨ (m + 1 ≤ lo ∧ hi ≤ m + 17)) : NA B h' m fl fu fs fw := by
  obtain ⟨⟨_, _, _, _, _, _, _, _, _, _, _, _, c⟩, ⟨fp, p1, p2⟩, a1, a2, a3, a4⟩ := n1
  exact ⟨⟨_, _, _, _, _, _, _, _, _, _, _, _, c.frm F (by omega)⟩, ⟨fp, by rw [F.2.2 _ (by omega)]; exact p1, p2⟩, by rw [F.2.2 _ (by omega)]; exact a1, by rw [F.2.2 _ (by omega)]; exact a2, by rw [F.2.2 _ (by omega)]; exact a3, by rw [F.2.2 _ (by omega)]; exact a4⟩
theorem NA.setl (n1 : NA B h m fl fu fs fw) (g : Nat → Int64) : NA B (pm_set B h (m + 18) (.inl (1, 320, .inr (.inl g)))) m g fu fs fw ∧ Frm B h (pm_set B h (m + 18) (.inl (1, 320, .inr (.inl g)))) (m + 18) (m + 22) := by
  obtain ⟨⟨_, _, _, _, _, _, _, _, _, _, _, _, c⟩, ⟨fp, p1, p2⟩, a1, a2, a3, a4⟩ := n1
  have F := Frm.set (e := .inl (1, 320, .inr (.inl g))) a1 rfl
  exact ⟨⟨⟨_, _, _, _, _, _, _, _, _, _, _, _, c.frm F (by omega)⟩, ⟨fp, (F.2.2 _ (by omega)).trans p1, p2⟩, pm_at_self (pm_v_at a1), (F.2.2 _ (by omega)).trans a2, (F.2.2 _ (by omega)).trans a3, (F.2.2 _ (by omega)).trans a4⟩, F.mono (by omega) (by omega)⟩
theorem NA.setu (n1 : NA B h m fl fu fs fw) (g : Nat → Int32) : NA B (pm_set B h (m + 19) (.inl (0, 8, .inl g))) m fl g fs fw ∧ Frm B h (pm_set B h (m + 19) (.inl (0, 8, .inl g))) (m + 18) (m + 22) := by
  obtain ⟨⟨_, _, _, _, _, _, _, _, _, _, _, _, c⟩, ⟨fp, p1, p2⟩, a1, a2, a3, a4⟩ := n1
  have F := Frm.set (e := .inl (0, 8, .inl g)) a2 rfl
  exact ⟨⟨⟨_, _, _, _, _, _, _, _, _, _, _, _, c.frm F (by omega)⟩, ⟨fp, (F.2.2 _ (by omega)).trans p1, p2⟩, (F.2.2 _ (by omega)).trans a1, pm_at_self (pm_v_at a2), (F.2.2 _ (by omega)).trans a3, (F.2.2 _ (by omega)).trans a4⟩, F.mono (by omega) (by omega)⟩
theorem NA.sets (n1 : NA B h m fl fu fs fw) (g : Nat → Int32) : NA B (pm_set B h (m + 20) (.inl (0, 8, .inl g))) m fl fu g fw ∧ Frm B h (pm_set B h (m + 20) (.inl (0, 8, .inl g))) (m + 18) (m + 22) := by
  obtain ⟨⟨_, _, _, _, _, _, _, _, _, _, _, _, c⟩, ⟨fp, p1, p2⟩, a1, a2, a3, a4⟩ := n1
  have F := Frm.set (e := .inl (0, 8, .inl g)) a3 rfl
  exact ⟨⟨⟨_, _, _, _, _, _, _, _, _, _, _, _, c.frm F (by omega)⟩, ⟨fp, (F.2.2 _ (by omega)).trans p1, p2⟩, (F.2.2 _ (by omega)).trans a1, (F.2.2 _ (by omega)).trans a2, pm_at_self (pm_v_at a3), (F.2.2 _ (by omega)).trans a4⟩, F.mono (by omega) (by omega)⟩
theorem NA.setw (n1 : NA B h m fl fu fs fw) (g : Nat → Int32) : NA B (pm_set B h (m + 21) (.inl (0, 1344, .inl g))) m fl fu fs g ∧ Frm B h (pm_set B h (m + 21) (.inl (0, 1344, .inl g))) (m + 18) (m + 22) := by
  obtain ⟨⟨_, _, _, _, _, _, _, _, _, _, _, _, c⟩, ⟨fp, p1, p2⟩, a1, a2, a3, a4⟩ := n1
  have F := Frm.set (e := .inl (0, 1344, .inl g)) a4 rfl
  exact ⟨⟨⟨_, _, _, _, _, _, _, _, _, _, _, _, c.frm F (by omega)⟩, ⟨fp, (F.2.2 _ (by omega)).trans p1, p2⟩, (F.2.2 _ (by omega)).trans a1, (F.2.2 _ (by omega)).trans a2, (F.2.2 _ (by omega)).trans a3, pm_at_self (pm_v_at a4)⟩, F.mono (by omega) (by omega)⟩
theorem ix_320 {k : Nat} (h : k < 320) : pm_ix (nI k) 320 = true := pm_ix_of h (by decide)
theorem ix_1344 {k : Nat} (h : k < 1344) : pm_ix (nI k) 1344 = true := pm_ix_of h (by decide)
theorem ix_8 {k : Nat} (h : k < 8) : pm_ix (nI k) 8 = true := pm_ix_of h (by decide)
theorem z_zero (n1 : NA B h m fl fu fs fw) (hr : r < 8) (hQ : ∀ h', NA B h' m (fill fl (40 * r) 40 (fun _ => 0)) (upd fu r 0) (upd fs r 0) (fill fw (168 * r) 168 (fun _ => 0)) → Frm B h h' (m + 18) (m + 22) → Q none h') : PW B X 109 0 [some (.ref m), some (.int (nI r)), none] [] h Q := by
  have loop2 : ∀ d k hc, k + d = 168 → NA B hc m (fill fl (40 * r) 40 (fun _ => 0)) fu fs (fill fw (168 * r) k (fun _ => 0)) → Frm B h hc (m + 18) (m + 22) → PW B X 109 28 [some (.ref m), some (.int (nI r)), some (.int (nI k))] [] hc Q := by
    intro d
    induction d with
    | zero =>
      intro k hc hk m1 m2
      obtain rfl : k = 168 := by omega
      have e1 : (168 : Int32) ≤ nI 168 := by decide
      have a2 := m1.2.2.2.1
      simp only [u_109_28, u_109_29, u_109_32, u_109_54, u_109_54n, u_109_55, u_109_58, u_109_59, u_109_60, pm_O_some, pm_w_nil, pm_w_i, pm_w_l, pm_w_r, pm_w_n, pm_c_n, pm_c_i, pm_c_l, pm_c_r, pm_c_u, Nat.reduceAdd, Nat.reduceLeDiff, true_and, Option.toList_some, Option.toList_none, List.cons_append, List.nil_append, if_pos e1, m1.f28, a2, st_i (t := 0) (ix_8 hr) rfl, nI_clamp (show r < 2 ^ 31 by omega), ty_0]
      obtain ⟨z1, z2⟩ := m1.setu (upd fu r 0)
      have a3 := z1.2.2.2.2.1
      simp only [u_109_61, u_109_61n, u_109_62, u_109_65, u_109_66, u_109_67, u_109_68, pm_O_some, pm_w_nil, pm_w_i, pm_w_l, pm_w_r, pm_w_n, pm_c_n, pm_c_i, pm_c_l, pm_c_r, pm_c_u, Nat.reduceAdd, Nat.reduceLeDiff, true_and, Option.toList_some, Option.toList_none, List.cons_append, List.nil_append, z1.f29, a3, st_i (t := 0) (ix_8 hr) rfl, nI_clamp (show r < 2 ^ 31 by omega), ty_0]
      obtain ⟨y1, y2⟩ := z1.sets (upd fs r 0)
      exact hQ _ y1 ((m2.trans z2).trans y2)
    | succ d ih =>
      intro k hc hk m1 m2
      have e1 : ¬ (168 : Int32) ≤ nI k := nI_ge (b := 168) (by omega) (by decide)
      have a4 := m1.2.2.2.2.2
      rw [u_109_28]
      simp only [u_109_29, u_109_32, u_109_35, u_109_35n, u_109_36, u_109_39, u_109_42, u_109_43, u_109_44, u_109_45, u_109_46, u_109_47, u_109_48, u_109_51, pm_O_some, pm_w_nil, pm_w_i, pm_w_l, pm_w_r, pm_w_n, pm_c_n, pm_c_i, pm_c_l, pm_c_r, pm_c_u, Nat.reduceAdd, Nat.reduceLeDiff, true_and, Option.toList_some, Option.toList_none, List.cons_append, List.nil_append, if_neg e1, m1.f30, a4, x168, st_i (t := 0) (ix_1344 (show 168 * r + k < 1344 by omega)) rfl, nI_clamp (show 168 * r + k < 2 ^ 31 by omega), ty_0, nI_1, fill_I (v := fun _ => (0 : Int32)) (n := k) rfl]
      obtain ⟨z1, z2⟩ := m1.setw (fill fw (168 * r) (k + 1) (fun _ => 0))
      exact ih (k + 1) _ (by omega) z1 (m2.trans z2)
  have loop1 : ∀ d k hc, k + d = 40 → NA B hc m (fill fl (40 * r) k (fun _ => 0)) fu fs fw → Frm B h hc (m + 18) (m + 22) → PW B X 109 2 [some (.ref m), some (.int (nI r)), some (.int (nI k))] [] hc Q := by
    intro d
    induction d with
    | zero =>
      intro k hc hk m1 m2
      obtain rfl : k = 40 := by omega
      have e1 : (40 : Int32) ≤ nI 40 := by decide
      simp only [u_109_2, u_109_3, u_109_5, u_109_26, u_109_27, pm_O_some, pm_w_nil, pm_w_i, pm_w_l, pm_w_r, pm_w_n, pm_c_n, pm_c_i, pm_c_l, pm_c_r, pm_c_u, Nat.reduceAdd, Nat.reduceLeDiff, true_and, Option.toList_some, Option.toList_none, List.cons_append, List.nil_append, if_pos e1]
      exact loop2 168 0 hc (by omega) (by rw [fill_0]; exact m1) m2
    | succ d ih =>
      intro k hc hk m1 m2
      have e1 : ¬ (40 : Int32) ≤ nI k := nI_ge (b := 40) (by omega) (by decide)
      have a4 := m1.2.2.1
      rw [u_109_2]
      simp only [u_109_3, u_109_5, u_109_8, u_109_8n, u_109_9, u_109_12, u_109_14, u_109_15, u_109_16, u_109_17, u_109_18, u_109_19, u_109_20, u_109_23, pm_O_some, pm_w_nil, pm_w_i, pm_w_l, pm_w_r, pm_w_n, pm_c_n, pm_c_i, pm_c_l, pm_c_r, pm_c_u, Nat.reduceAdd, Nat.reduceLeDiff, true_and, Option.toList_some, Option.toList_none, List.cons_append, List.nil_append, if_neg e1, m1.f27, a4, x40, st_l (ix_320 (show 40 * r + k < 320 by omega)), nI_clamp (show 40 * r + k < 2 ^ 31 by omega), nI_1, fill_L (v := fun _ => (0 : Int64)) (n := k) rfl]
      obtain ⟨z1, z2⟩ := m1.setl (fill fl (40 * r) (k + 1) (fun _ => 0))
      exact ih (k + 1) _ (by omega) z1 (m2.trans z2)
  simp only [u_109_0, u_109_1, pm_O_some, pm_w_nil, pm_w_i, pm_w_l, pm_w_r, pm_w_n, pm_c_n, pm_c_i, pm_c_l, pm_c_r, pm_c_u, Nat.reduceAdd, Nat.reduceLeDiff, true_and, Option.toList_some, Option.toList_none, List.cons_append, List.nil_append]
  exact loop1 40 0 h (by omega) (by rw [fill_0]; exact n1) Frm.rfl'
theorem z_copy (n1 : NA B h m fl fu fs fw) (hp : p < 8) (hq : q < 8) (hn : ¬ p = q) (hQ : ∀ h', NA B h' m (fill fl (40 * q) 40 (fun k => fl (40 * p + k))) (upd fu q (fu p)) (upd fs q (fs p)) (fill fw (168 * q) 168 (fun k => fw (168 * p + k))) → Frm B h h' (m + 18) (m + 22) → Q none h') : PW B X 118 0 [some (.ref m), some (.int (nI p)), some (.int (nI q)), none] [] h Q := by
  have loop2 : ∀ d k hc, k + d = 168 → NA B hc m (fill fl (40 * q) 40 (fun k => fl (40 * p + k))) fu fs (fill fw (168 * q) k (fun k => fw (168 * p + k))) → Frm B h hc (m + 18) (m + 22) → PW B X 118 38 [some (.ref m), some (.int (nI p)), some (.int (nI q)), some (.int (nI k))] [] hc Q := by
    intro d
    induction d with
    | zero =>
      intro k hc hk m1 m2
      obtain rfl : k = 168 := by omega
      have e1 : (168 : Int32) ≤ nI 168 := by decide
      have a2 := m1.2.2.2.1
      simp only [u_118_38, u_118_39, u_118_42, u_118_75, u_118_75n, u_118_76, u_118_79, u_118_80, u_118_80n, u_118_81, u_118_84, u_118_85, u_118_86, pm_O_some, pm_w_nil, pm_w_i, pm_w_l, pm_w_r, pm_w_n, pm_c_n, pm_c_i, pm_c_l, pm_c_r, pm_c_u, Nat.reduceAdd, Nat.reduceLeDiff, true_and, Option.toList_some, Option.toList_none, List.cons_append, List.nil_append, if_pos e1, m1.f28, a2, ld_i (t := 0) (ix_8 hp) rfl, st_i (t := 0) (ix_8 hq) rfl, nI_clamp (show p < 2 ^ 31 by omega), nI_clamp (show q < 2 ^ 31 by omega), ty_0]
      obtain ⟨z1, z2⟩ := m1.setu (upd fu q (fu p))
      have a3 := z1.2.2.2.2.1
      simp only [u_118_87, u_118_87n, u_118_88, u_118_91, u_118_92, u_118_92n, u_118_93, u_118_96, u_118_97, u_118_98, u_118_99, pm_O_some, pm_w_nil, pm_w_i, pm_w_l, pm_w_r, pm_w_n, pm_c_n, pm_c_i, pm_c_l, pm_c_r, pm_c_u, Nat.reduceAdd, Nat.reduceLeDiff, true_and, Option.toList_some, Option.toList_none, List.cons_append, List.nil_append, z1.f29, a3, ld_i (t := 0) (ix_8 hp) rfl, st_i (t := 0) (ix_8 hq) rfl, nI_clamp (show p < 2 ^ 31 by omega), nI_clamp (show q < 2 ^ 31 by omega), ty_0]
      obtain ⟨y1, y2⟩ := z1.sets (upd fs q (fs p))
      exact hQ _ y1 ((m2.trans z2).trans y2)
    | succ d ih =>
      intro k hc hk m1 m2
      have e1 : ¬ (168 : Int32) ≤ nI k := nI_ge (b := 168) (by omega) (by decide)
      have a4 := m1.2.2.2.2.2
      have e2 : fill fw (168 * q) k (fun k => fw (168 * p + k)) (168 * p + k) = fw (168 * p + k) := fill_out (by omega)
      rw [u_118_38]
      simp only [u_118_39, u_118_42, u_118_45, u_118_45n, u_118_46, u_118_49, u_118_52, u_118_53, u_118_54, u_118_55, u_118_56, u_118_56n, u_118_57, u_118_60, u_118_63, u_118_64, u_118_65, u_118_66, u_118_67, u_118_68, u_118_69, u_118_72, pm_O_some, pm_w_nil, pm_w_i, pm_w_l, pm_w_r, pm_w_n, pm_c_n, pm_c_i, pm_c_l, pm_c_r, pm_c_u, Nat.reduceAdd, Nat.reduceLeDiff, true_and, Option.toList_some, Option.toList_none, List.cons_append, List.nil_append, if_neg e1, m1.f30, a4, x168, ld_i (t := 0) (ix_1344 (show 168 * p + k < 1344 by omega)) rfl, st_i (t := 0) (ix_1344 (show 168 * q + k < 1344 by omega)) rfl, nI_clamp (show 168 * p + k < 2 ^ 31 by omega), nI_clamp (show 168 * q + k < 2 ^ 31 by omega), ty_0, nI_1, e2, fill_I (v := fun k => fw (168 * p + k)) (n := k) rfl]
      obtain ⟨z1, z2⟩ := m1.setw (fill fw (168 * q) (k + 1) (fun k => fw (168 * p + k)))
      exact ih (k + 1) _ (by omega) z1 (m2.trans z2)
  have loop1 : ∀ d k hc, k + d = 40 → NA B hc m (fill fl (40 * q) k (fun k => fl (40 * p + k))) fu fs fw → Frm B h hc (m + 18) (m + 22) → PW B X 118 2 [some (.ref m), some (.int (nI p)), some (.int (nI q)), some (.int (nI k))] [] hc Q := by
    intro d
    induction d with
    | zero =>
      intro k hc hk m1 m2
      obtain rfl : k = 40 := by omega
      have e1 : (40 : Int32) ≤ nI 40 := by decide
      simp only [u_118_2, u_118_3, u_118_5, u_118_36, u_118_37, pm_O_some, pm_w_nil, pm_w_i, pm_w_l, pm_w_r, pm_w_n, pm_c_n, pm_c_i, pm_c_l, pm_c_r, pm_c_u, Nat.reduceAdd, Nat.reduceLeDiff, true_and, Option.toList_some, Option.toList_none, List.cons_append, List.nil_append, if_pos e1]
      exact loop2 168 0 hc (by omega) (by rw [fill_0]; exact m1) m2
    | succ d ih =>
      intro k hc hk m1 m2
      have e1 : ¬ (40 : Int32) ≤ nI k := nI_ge (b := 40) (by omega) (by decide)
      have a4 := m1.2.2.1
      have e2 : fill fl (40 * q) k (fun k => fl (40 * p + k)) (40 * p + k) = fl (40 * p + k) := fill_out (by omega)
      rw [u_118_2]
      simp only [u_118_3, u_118_5, u_118_8, u_118_8n, u_118_9, u_118_12, u_118_14, u_118_15, u_118_16, u_118_17, u_118_18, u_118_18n, u_118_19, u_118_22, u_118_24, u_118_25, u_118_26, u_118_27, u_118_28, u_118_29, u_118_30, u_118_33, pm_O_some, pm_w_nil, pm_w_i, pm_w_l, pm_w_r, pm_w_n, pm_c_n, pm_c_i, pm_c_l, pm_c_r, pm_c_u, Nat.reduceAdd, Nat.reduceLeDiff, true_and, Option.toList_some, Option.toList_none, List.cons_append, List.nil_append, if_neg e1, m1.f27, a4, x40, ld_l (ix_320 (show 40 * p + k < 320 by omega)), st_l (ix_320 (show 40 * q + k < 320 by omega)), nI_clamp (show 40 * p + k < 2 ^ 31 by omega), nI_clamp (show 40 * q + k < 2 ^ 31 by omega), nI_1, e2, fill_L (v := fun k => fl (40 * p + k)) (n := k) rfl]
      obtain ⟨z1, z2⟩ := m1.setl (fill fl (40 * q) (k + 1) (fun k => fl (40 * p + k)))
      exact ih (k + 1) _ (by omega) z1 (m2.trans z2)
  simp only [u_118_0, u_118_1, pm_O_some, pm_w_nil, pm_w_i, pm_w_l, pm_w_r, pm_w_n, pm_c_n, pm_c_i, pm_c_l, pm_c_r, pm_c_u, Nat.reduceAdd, Nat.reduceLeDiff, true_and, Option.toList_some, Option.toList_none, List.cons_append, List.nil_append]
  exact loop1 40 0 h (by omega) (by rw [fill_0]; exact n1) Frm.rfl'
-- in terms of registers
theorem NS.io (n1 : NS B h m R) : pm_io B h m 10 = true := by
  obtain ⟨fl, fu, fs, fw, n2, _⟩ := n1
  exact n2.io
theorem NS.frm (n1 : NS B h m R) (F : Frm B h h' lo hi) (d : hi ≤ m ∨ m + 22 ≤ lo ∨ (m + 1 ≤ lo ∧ hi ≤ m + 17)) : NS B h' m R := by
  obtain ⟨fl, fu, fs, fw, n2, n3⟩ := n1
  exact ⟨fl, fu, fs, fw, n2.frm F d, n3⟩
theorem c_zero (n1 : NS B h m R) (hr : r < 8) (hQ : ∀ h', NS B h' m (ups R r (0, 0, fun _ => 0)) → Frm B h h' (m + 18) (m + 22) → Q none h') : PW B X 109 0 [some (.ref m), some (.int (nI r)), none] [] h Q := by
  obtain ⟨fl, fu, fs, fw, n2, n3⟩ := n1
  refine z_zero n2 hr (fun h' z1 z2 => hQ h' ⟨_, _, _, _, z1, fun j hj => ?_⟩ z2)
  by_cases e : j = r
  · subst e
    rw [ups_s]
    exact ⟨0, by omega, fun i hi => by omega, rfl, rfl, fun k _ hk => fill_in hk, if_pos rfl, if_pos rfl, fun k hk => ⟨fill_in hk, (by decide : 0 < 2 ^ 20)⟩⟩
  · rw [ups_n e]
    exact (n3 j hj).oth (fun k hk => fill_out (by omega)) (if_neg e) (if_neg e) (fun k hk => fill_out (by omega))
theorem c_copy (n1 : NS B h m R) (hp : p < 8) (hq : q < 8) (hn : ¬ p = q) (hQ : ∀ h', NS B h' m (ups R q (R p)) → Frm B h h' (m + 18) (m + 22) → Q none h') : PW B X 118 0 [some (.ref m), some (.int (nI p)), some (.int (nI q)), none] [] h Q := by
  obtain ⟨fl, fu, fs, fw, n2, n3⟩ := n1
  refine z_copy n2 hp hq hn (fun h' z1 z2 => hQ h' ⟨_, _, _, _, z1, fun j hj => ?_⟩ z2)
  by_cases e : j = q
  · subst e
    rw [ups_s]
    obtain ⟨u, a1, a2, a3, a4, a5, a6, a7, a8⟩ := n3 p hp
    have ee : ∀ i, i < u → (fun k => fill fl (40 * j) 40 (fun k => fl (40 * p + k)) (40 * j + k)) i = (fun k => fl (40 * p + k)) i := fun i hi => fill_in (show i < 40 by omega)
    refine ⟨u, a1, lok_congr ee a2, ?_, ?_, fun k k1 k2 => (fill_in k2).trans (a5 k k1 k2), (if_pos rfl).trans a6, (if_pos rfl).trans a7, fun k hk => ⟨(fill_in hk).trans (a8 k hk).1, (a8 k hk).2⟩⟩
    · unfold nrm
      rw [tl_congr ee]
      exact a3
    · rw [nv_congr (fun i hi => dg_eq (ee i hi))]
      exact a4
  · rw [ups_n e]
    exact (n3 j hj).oth (fun k hk => fill_out (by omega)) (if_neg e) (if_neg e) (fun k hk => fill_out (by omega))
end NAS

/-! FRAMES OVER A GROWN HEAP; the call bearing. -/
def Frx (B : Nat) (h h' : pm_H) (lo hi : Nat) : Prop := ∀ q, q < lo ∨ hi ≤ q → pm_at B h' q = pm_at B h q
section FX
variable {B : Nat} {X : pm_X} {h h' : pm_H} {Q : Option Value → pm_H → Prop} {r b e lo hi nr nt ax t p P M R k U L W V n ln nl nd : Nat} {s : Int32} {q : Rat} {F : Nat → Nat} {fc fu fl fk fs fa fb : Nat → Int32} {x5 x6 : Int32} {bs : Nat → Bg} {tx sz lm ll : Nat → Nat} {tm : Nat → Nat → Tm} {x y hx hy jl jg jw lc gc : Int32} {av : Nat → Nat → Int} {bv : Nat → Nat → Nat} {lq gq : Rat} {g : Bg} {dy : Nat → Int} {jk : Option (Nat × Nat)}
theorem Frm.fx (f1 : Frm B h h' lo hi) : Frx B h h' lo hi := f1.2.2
theorem frx_app {t : pm_H} : Frx B h (h ++ t) (B + h.length) (B + h.length + t.length) := by
  intro q hq
  unfold pm_at
  by_cases z : q < B
  · rw [if_pos z, if_pos z]
  · rw [if_neg z, if_neg z]
    rcases hq with hq | hq
    · rw [List.getElem?_append_left (by omega)]
    · rw [List.getElem?_eq_none (by rw [List.length_append]; omega), List.getElem?_eq_none (by omega)]
theorem NatV.frx (n1 : NatV B h b W) (f1 : Frx B h h' lo hi) (d : b + 2 ≤ lo ∨ hi ≤ b) : NatV B h' b W := by
  obtain ⟨f, n, h1, h2, r⟩ := n1
  exact ⟨f, n, by rw [f1 _ (by omega)]; exact h1, by rw [f1 _ (by omega)]; exact h2, r⟩
theorem FracV.frx (n1 : FracV B h p s U L) (f1 : Frx B h h' lo hi) (d : p + 5 ≤ lo ∨ hi ≤ p) : FracV B h' p s U L := ⟨by rw [f1 _ (by omega)]; exact n1.1, n1.2.1.frx f1 (by omega), n1.2.2.frx f1 (by omega)⟩
theorem ScV.frx (n1 : ScV B h p) (f1 : Frx B h h' lo hi) (d : p + 5 ≤ lo ∨ hi ≤ p) : ScV B h' p := by
  obtain ⟨V, W, h1, h2, h3⟩ := n1
  exact ⟨V, W, by rw [f1 _ (by omega)]; exact h1, h2.frx f1 (by omega), h3.frx f1 (by omega)⟩
theorem TsV.frx (n1 : TsV B h t P M R F k) (f1 : Frx B h h' lo hi) (d : t + 10 ≤ lo ∨ hi ≤ t) : TsV B h' t P M R F k := by
  obtain ⟨N, f, h1, h2, h3, h4, h5, h6, h7⟩ := n1
  exact ⟨N, f, by rw [f1 _ (by omega)]; exact h1, h2.frx f1 (by omega), h3.frx f1 (by omega), h4.frx f1 (by omega), h5.frx f1 (by omega), by rw [f1 _ (by omega)]; exact h6, h7⟩
theorem FracQ.frx (n1 : FracQ B h p q) (f1 : Frx B h h' lo hi) (d : p + 5 ≤ lo ∨ hi ≤ p) : FracQ B h' p q := FracV.frx n1 f1 d
theorem RsR.frx (n1 : RsR B h r fc fu fl fk fs x5 x6) (f1 : Frx B h h' lo hi) (d : r + 6 ≤ lo ∨ hi ≤ r) : RsR B h' r fc fu fl fk fs x5 x6 := by
  obtain ⟨h1, h2, h3, h4, h5, h6⟩ := n1
  exact ⟨by rw [f1 _ (by omega)]; exact h1, by rw [f1 _ (by omega)]; exact h2, by rw [f1 _ (by omega)]; exact h3, by rw [f1 _ (by omega)]; exact h4, by rw [f1 _ (by omega)]; exact h5, by rw [f1 _ (by omega)]; exact h6⟩
theorem RsV.frx (n1 : RsV B h r nr nt sz tm) (f1 : Frx B h h' lo hi) (d : r + 6 ≤ lo ∨ hi ≤ r) : RsV B h' r nr nt sz tm := by
  obtain ⟨fc, fu, fl, fk, fs, h1, h2⟩ := n1
  exact ⟨fc, fu, fl, fk, fs, h1.frx f1 d, h2⟩
theorem BeV.frx (n1 : BeV B h b x y hx hy av bv jl jg jw) (f1 : Frx B h h' lo hi) (d : b + 8 ≤ lo ∨ hi ≤ b) : BeV B h' b x y hx hy av bv jl jg jw := by
  obtain ⟨h1, ⟨fa, fb, h2, h3, h4⟩, s, U, L, h5⟩ := n1
  exact ⟨by rw [f1 _ (by omega)]; exact h1, ⟨fa, fb, by rw [f1 _ (by omega)]; exact h2, by rw [f1 _ (by omega)]; exact h3, h4⟩, s, U, L, h5.frx f1 (by omega)⟩
theorem ExR.frx (n1 : ExR B h e lq lc gq gc) (f1 : Frx B h h' lo hi) (d : e + 31 ≤ lo ∨ hi ≤ e) : ExR B h' e lq lc gq gc := by
  obtain ⟨h1, ⟨P, M, R, F, k, h2⟩, ⟨s, U, L, h3⟩, h4, h5, h6, h7, h8⟩ := n1
  exact ⟨by rw [f1 _ (by omega)]; exact h1, ⟨P, M, R, F, k, h2.frx f1 (by omega)⟩, ⟨s, U, L, h3.frx f1 (by omega)⟩, h4.frx f1 (by omega), h5.frx f1 (by omega), h6, h7, h8.frx f1 (by omega)⟩
theorem BeG.frx (n1 : BeG B h b g) (f1 : Frx B h h' lo hi) (d : b + 8 ≤ lo ∨ hi ≤ b) : BeG B h' b g := BeV.frx n1 f1 d
theorem RdV.frx (n1 : RdV B h ln tx) (f1 : Frx B h h' lo hi) (d : B + 5 ≤ lo ∨ hi ≤ B + 3) : RdV B h' ln tx := by
  obtain ⟨h1, ra, fT, h2, h3, h4⟩ := n1
  exact ⟨h1, ra, fT, by rw [f1 _ (by omega)]; exact h2, by rw [f1 _ (by omega)]; exact h3, h4⟩
theorem RsX.frx (n1 : RsX B h b) (f1 : Frx B h h' lo hi) (d : b + 6 ≤ lo ∨ hi ≤ b) : RsX B h' b := by
  obtain ⟨fc, fu, fl, fk, fs, x5, x6, h1⟩ := n1
  exact ⟨fc, fu, fl, fk, fs, x5, x6, h1.frx f1 d⟩
theorem LsV.frx (n1 : LsV B h nl lm ll) (f1 : Frx B h h' lo hi) (d : B + 71 ≤ lo ∨ hi ≤ B + 69) : LsV B h' nl lm ll := by
  obtain ⟨h1, f, g, h2, h3, h4⟩ := n1
  exact ⟨h1, f, g, by rw [f1 _ (by omega)]; exact h2, by rw [f1 _ (by omega)]; exact h3, h4⟩
theorem CW.frx (n1 : CW B h) (f1 : Frx B h h' lo hi) (d : B + 71 ≤ lo ∨ (B + 3 ≤ lo ∧ hi ≤ B + 17) ∨ hi ≤ B + 2 ∨ (B + 69 ≤ lo)) : CW B h' := by
  obtain ⟨⟨t, g, rb, rt, h1⟩, ⟨lq, lc, gq, gc, h2⟩, ⟨s, U, L, h3⟩, ⟨fb, h4, h5⟩, ⟨s1, U1, L1, h6⟩, ⟨s2, U2, L2, h7⟩, ⟨s3, U3, L3, h8⟩⟩ := n1
  exact ⟨⟨t, g, rb, rt, by rw [f1 _ (by omega)]; exact h1⟩, ⟨lq, lc, gq, gc, h2.frx f1 (by omega)⟩, ⟨s, U, L, h3.frx f1 (by omega)⟩, ⟨fb, by rw [f1 _ (by omega)]; exact h4, h5⟩, ⟨s1, U1, L1, h6.frx f1 (by omega)⟩, ⟨s2, U2, L2, h7.frx f1 (by omega)⟩, ⟨s3, U3, L3, h8.frx f1 (by omega)⟩⟩
theorem NatV.zero (h1 : pm_at B h b = some (.inr (5, [.ref (b + 1), .int 0]))) (h2 : pm_at B h (b + 1) = some (.inl (1, 12, .inr (.inl (fun _ => 0))))) : NatV B h b 0 := ⟨_, 0, h1, h2, fun i hi => by omega, by omega, rfl, rfl⟩
theorem NatV.one (h1 : pm_at B h b = some (.inr (5, [.ref (b + 1), .int 1]))) (h2 : pm_at B h (b + 1) = some (.inl (1, 12, .inr (.inl (vp_updL (fun _ => 0) 0 1))))) : NatV B h b 1 := by
  refine ⟨_, 1, h1, h2, fun i hi => ?_, by omega, rfl, rfl⟩
  obtain rfl : i = 0 := by omega
  exact ⟨rfl, by decide⟩
end FX
def KpG (B : Nat) (h h' : pm_H) : Prop := h'.length = h.length + 8 ∧ pm_sl h' = pm_sl h + 89 ∧ ∀ q, B + 71 ≤ q → q < B + 95 → pm_at B h' q = pm_at B h q
def bg0 (x y : Int32) : Bg := (x, y, 0, 0, (fun _ _ => 0), (fun _ _ => 1), 0, 0, 0)
theorem pm_sl_app {h t : pm_H} : pm_sl (h ++ t) = pm_sl h + pm_sl t := by simp [pm_sl]
section SE6
variable {B : Nat} {X : pm_X} {h h' h2 : pm_H} {Q : Option Value → pm_H → Prop} {e lo hi n ln nr nd nl i a : Nat} {bs : Nat → Bg} {tx sz lm ll : Nat → Nat} {tm : Nat → Nat → Tm} {dy : Nat → Int} {jk : Option (Nat × Nat)} {g : Bg} {b x y z ax w st : Int32}
theorem be_new {f : Nat → Int32} (ha : a = B + h.length) (hf : ∀ j, j < 24 → f j = 1) : BeG B (h ++ [.inr (9, [.int x, .int y, .int 0, .int 0, .ref (a + 1), .ref (a + 2), .int 0, .int 0, .int 0, .ref (a + 3)]), .inl (0, 24, .inl (fun _ => 0)), .inl (0, 24, .inl f), .inr (8, [.int 0, .ref (a + 4), .ref (a + 6)]), .inr (5, [.ref (a + 5), .int 0]), .inl (1, 12, .inr (.inl (fun _ => 0))), .inr (5, [.ref (a + 7), .int 1]), .inl (1, 12, .inr (.inl (vp_updL (fun _ => 0) 0 1)))]) a (bg0 x y) := by
  refine ⟨ap_at 0 ha, ⟨_, _, ap_at 1 ha, ap_at 2 ha, fun i ax hi hax => ⟨rfl, (by decide : (-1000000 : Int) ≤ 0 ∧ (0 : Int) ≤ 1000000), hf _ (by omega), (by decide : 1 ≤ 1), (by decide : 1 ≤ 1000)⟩⟩, 0, 0, 1, ap_at 3 ha, NatV.zero (ap_at 4 ha) (ap_at 5 ha), NatV.one (ap_at 6 ha) (ap_at 7 ha)⟩
set_option maxHeartbeats 1000000 in
theorem c_bearing (n1 : CC B h n bs ln tx nr sz tm nd dy nl lm ll jk) (hl : h.length = 95 + 8 * n) (hg : n < 10 ∧ (-100000 ≤ x.toInt ∧ x.toInt ≤ 100000) ∧ (-100000 ≤ y.toInt ∧ y.toInt ≤ 100000) → ∀ h', CC B h' (n + 1) (upb bs n (bg0 x y)) ln tx nr sz tm nd dy nl lm ll none → KpG B h h' → Q (some (.int (nI n))) h')
    (hb : ¬ (n < 10 ∧ (-100000 ≤ x.toInt ∧ x.toInt ≤ 100000) ∧ (-100000 ≤ y.toInt ∧ y.toInt ≤ 100000)) → Q (some (.int (-1))) h) : PW B X 11 0 [some (.ref B), some (.int x), some (.int y)] [] h Q := by
  obtain ⟨⟨rs, rs2, lw, jh, jm, ra, a1, a2, ⟨a3, ⟨fb, b1, b2⟩, b3⟩, a4, a5, a6, a7, a8, a9⟩, n2⟩ := n1
  have w1 : (B + 5 ≤ rs ∧ rs ≤ B + 11) ∧ (B + 5 ≤ rs2 ∧ rs2 ≤ B + 11) := by rcases a2 with ⟨z1, z2⟩ | ⟨z1, z2⟩ <;> omega
  by_cases h1 : n < 10
  · have e1 : ¬ (10 : Int32) ≤ nI n := nI_ge (b := 10) h1 (by decide)
    by_cases hV : (-100000 ≤ x.toInt ∧ x.toInt ≤ 100000) ∧ (-100000 ≤ y.toInt ∧ y.toInt ≤ 100000)
    · simp only [u_11_0, u_11_0n, u_11_1, u_11_4, u_11_6, u_11_9, u_11_10, u_11_12, u_11_14, u_11_17, u_11_20, u_11_21, u_11_23, u_11_25, u_11_28, u_11_31, u_11_32, u_11_33, u_11_33n, u_11_34, u_11_37, u_11_37n, u_11_38, u_11_41, u_11_44, u_11_44i, u_11_45, u_11_46, u_11_47, pm_O_some, pm_w_nil, pm_w_i, pm_w_l, pm_w_r, pm_w_n, pm_c_n, pm_c_i, pm_c_l, pm_c_r, pm_c_u, Nat.reduceAdd, Nat.reduceLeDiff, true_and, Option.toList_some, Option.toList_none, List.cons_append, List.nil_append, a1, gf_0_0, gf_0_1, if_neg e1, s_within, w_far, one0, ite_not, if_pos hV.1, if_pos hV.2, i10, if_false]
      obtain ⟨a, ha⟩ : ∃ a, a = B + h.length := ⟨_, rfl⟩
      rw [← ha]
      refine i_bear ha (fun f hf => ?_)
      have G0 := frx_app (B := B) (h := h) (t := [.inr (9, [.int x, .int y, .int 0, .int 0, .ref (a + 1), .ref (a + 2), .int 0, .int 0, .int 0, .ref (a + 3)]), .inl (0, 24, .inl (fun _ => 0)), .inl (0, 24, .inl f), .inr (8, [.int 0, .ref (a + 4), .ref (a + 6)]), .inr (5, [.ref (a + 5), .int 0]), .inl (1, 12, .inr (.inl (fun _ => 0))), .inr (5, [.ref (a + 7), .int 1]), .inl (1, 12, .inr (.inl (vp_updL (fun _ => 0) 0 1)))])
      have c0 := be_new (x := x) (y := y) ha hf
      have c1 : pm_at B (h ++ [.inr (9, [.int x, .int y, .int 0, .int 0, .ref (a + 1), .ref (a + 2), .int 0, .int 0, .int 0, .ref (a + 3)]), .inl (0, 24, .inl (fun _ => 0)), .inl (0, 24, .inl f), .inr (8, [.int 0, .ref (a + 4), .ref (a + 6)]), .inr (5, [.ref (a + 5), .int 0]), .inl (1, 12, .inr (.inl (fun _ => 0))), .inr (5, [.ref (a + 7), .int 1]), .inl (1, 12, .inr (.inl (vp_updL (fun _ => 0) 0 1)))]) a = some (.inr (9, [.int x, .int y, .int 0, .int 0, .ref (a + 1), .ref (a + 2), .int 0, .int 0, .int 0, .ref (a + 3)])) := ap_at 0 ha
      have c2 : List.length (α := pm_E) (h ++ [.inr (9, [.int x, .int y, .int 0, .int 0, .ref (a + 1), .ref (a + 2), .int 0, .int 0, .int 0, .ref (a + 3)]), .inl (0, 24, .inl (fun _ => 0)), .inl (0, 24, .inl f), .inr (8, [.int 0, .ref (a + 4), .ref (a + 6)]), .inr (5, [.ref (a + 5), .int 0]), .inl (1, 12, .inr (.inl (fun _ => 0))), .inr (5, [.ref (a + 7), .int 1]), .inl (1, 12, .inr (.inl (vp_updL (fun _ => 0) 0 1)))]) = h.length + 8 := by simp
      have c3 : pm_sl (h ++ [.inr (9, [.int x, .int y, .int 0, .int 0, .ref (a + 1), .ref (a + 2), .int 0, .int 0, .int 0, .ref (a + 3)]), .inl (0, 24, .inl (fun _ => 0)), .inl (0, 24, .inl f), .inr (8, [.int 0, .ref (a + 4), .ref (a + 6)]), .inr (5, [.ref (a + 5), .int 0]), .inl (1, 12, .inr (.inl (fun _ => 0))), .inr (5, [.ref (a + 7), .int 1]), .inl (1, 12, .inr (.inl (vp_updL (fun _ => 0) 0 1)))]) = pm_sl h + 89 := pm_sl_app
      have G1 : Frx B h (h ++ [.inr (9, [.int x, .int y, .int 0, .int 0, .ref (a + 1), .ref (a + 2), .int 0, .int 0, .int 0, .ref (a + 3)]), .inl (0, 24, .inl (fun _ => 0)), .inl (0, 24, .inl f), .inr (8, [.int 0, .ref (a + 4), .ref (a + 6)]), .inr (5, [.ref (a + 5), .int 0]), .inl (1, 12, .inr (.inl (fun _ => 0))), .inr (5, [.ref (a + 7), .int 1]), .inl (1, 12, .inr (.inl (vp_updL (fun _ => 0) 0 1)))]) (B + 95 + 8 * n) (B + 95 + 8 * n + 8) := by
        intro q hq
        refine G0 q ?_
        rw [hl]
        show _ ∨ _ + 8 ≤ _
        omega
      generalize h ++ [.inr (9, [.int x, .int y, .int 0, .int 0, .ref (a + 1), .ref (a + 2), .int 0, .int 0, .int 0, .ref (a + 3)]), .inl (0, 24, .inl (fun _ => 0)), .inl (0, 24, .inl f), .inr (8, [.int 0, .ref (a + 4), .ref (a + 6)]), .inr (5, [.ref (a + 5), .int 0]), .inl (1, 12, .inr (.inl (fun _ => 0))), .inr (5, [.ref (a + 7), .int 1]), .inl (1, 12, .inr (.inl (vp_updL (fun _ => 0) 0 1)))] = hA at c0 c1 c2 c3 G1 ⊢
      clear G0
      obtain rfl : a = B + 95 + 8 * n := by omega
      have t0 := (G1 B (by omega)).trans a1
      have t1 := (G1 (B + 1) (by omega)).trans b1
      simp only [u_11_50, pm_O_some, pm_w_nil, pm_w_i, pm_w_l, pm_w_r, pm_w_n, pm_c_n, pm_c_i, pm_c_l, pm_c_r, pm_c_u, Nat.reduceAdd, Nat.reduceLeDiff, true_and, Option.toList_some, Option.toList_none, List.cons_append, List.nil_append, t1, c1, st_be (pm_ix_of h1 (by decide)), nI_clamp (show n < 2 ^ 31 by omega)]
      have F := Frm.set (e := .inl (4, 10, .inr (.inr (.inr (.inr (va_up fb n (some (B + 95 + 8 * n)))))))) t1 rfl
      have s0 := (F.2.2 B (by omega)).trans t0
      have s1 := pm_at_self (e := .inl (4, 10, .inr (.inr (.inr (.inr (va_up fb n (some (B + 95 + 8 * n)))))))) (pm_v_at t1)
      generalize pm_set B hA (B + 1) (.inl (4, 10, .inr (.inr (.inr (.inr (va_up fb n (some (B + 95 + 8 * n)))))))) = hB at F s0 s1 ⊢
      simp only [u_11_51, u_11_51n, u_11_52, u_11_52i, u_11_53, u_11_56, u_11_57, u_11_58, pm_O_some, pm_w_nil, pm_w_i, pm_w_l, pm_w_r, pm_w_n, pm_c_n, pm_c_i, pm_c_l, pm_c_r, pm_c_u, Nat.reduceAdd, Nat.reduceLeDiff, true_and, Option.toList_some, Option.toList_none, List.cons_append, List.nil_append, s0, gf_0_1, pf_0_1, nI_1]
      have G := Frm.set (e := .inr (0, [.ref (B + 1), .int (nI (n + 1)), .ref (B + 2), .ref (B + 3), .ref rs, .ref rs2, .ref (B + 17), .ref (B + 22), .ref (B + 48), .ref (B + 53), .int (nI nd), .int lw, .long (lN (wy dy nd)), .ref (B + 69), .ref (B + 70), .int (nI nl), .int jh, .int jm, .int ra])) s0 rfl
      have r0 := pm_at_self (e := .inr (0, [.ref (B + 1), .int (nI (n + 1)), .ref (B + 2), .ref (B + 3), .ref rs, .ref rs2, .ref (B + 17), .ref (B + 22), .ref (B + 48), .ref (B + 53), .int (nI nd), .int lw, .long (lN (wy dy nd)), .ref (B + 69), .ref (B + 70), .int (nI nl), .int jh, .int jm, .int ra])) (pm_v_at s0)
      generalize pm_set B hB B (.inr (0, [.ref (B + 1), .int (nI (n + 1)), .ref (B + 2), .ref (B + 3), .ref rs, .ref rs2, .ref (B + 17), .ref (B + 22), .ref (B + 48), .ref (B + 53), .int (nI nd), .int lw, .long (lN (wy dy nd)), .ref (B + 69), .ref (B + 70), .int (nI nl), .int jh, .int jm, .int ra])) = hC at G r0 ⊢
      simp only [u_11_61, u_11_61n, u_11_62, u_11_63, pm_O_some, pm_w_nil, pm_w_i, pm_w_l, pm_w_r, pm_w_n, pm_c_n, pm_c_i, pm_c_l, pm_c_r, pm_c_u, Nat.reduceAdd, Nat.reduceLeDiff, true_and, Option.toList_some, Option.toList_none, List.cons_append, List.nil_append, r0, pf_0_18]
      have H := Frm.set (e := .inr (0, [.ref (B + 1), .int (nI (n + 1)), .ref (B + 2), .ref (B + 3), .ref rs, .ref rs2, .ref (B + 17), .ref (B + 22), .ref (B + 48), .ref (B + 53), .int (nI nd), .int lw, .long (lN (wy dy nd)), .ref (B + 69), .ref (B + 70), .int (nI nl), .int jh, .int jm, .int (-1)])) r0 rfl
      have q0 := pm_at_self (e := .inr (0, [.ref (B + 1), .int (nI (n + 1)), .ref (B + 2), .ref (B + 3), .ref rs, .ref rs2, .ref (B + 17), .ref (B + 22), .ref (B + 48), .ref (B + 53), .int (nI nd), .int lw, .long (lN (wy dy nd)), .ref (B + 69), .ref (B + 70), .int (nI nl), .int jh, .int jm, .int (-1)])) (pm_v_at r0)
      generalize pm_set B hC B (.inr (0, [.ref (B + 1), .int (nI (n + 1)), .ref (B + 2), .ref (B + 3), .ref rs, .ref rs2, .ref (B + 17), .ref (B + 22), .ref (B + 48), .ref (B + 53), .int (nI nd), .int lw, .long (lN (wy dy nd)), .ref (B + 69), .ref (B + 70), .int (nI nl), .int jh, .int jm, .int (-1)])) = hD at H q0 ⊢
      simp only [u_11_66, u_11_66n, u_11_67, u_11_70, u_11_71, u_11_72, pm_O_some, pm_w_nil, pm_w_i, pm_w_l, pm_w_r, pm_w_n, pm_c_n, pm_c_i, pm_c_l, pm_c_r, pm_c_u, Nat.reduceAdd, Nat.reduceLeDiff, true_and, Option.toList_some, Option.toList_none, List.cons_append, List.nil_append, q0, gf_0_1, nI_pred]
      have FH : Frm B hA hD B (B + 2) := ((F.mono (by omega) (by omega)).trans (G.mono (by omega) (by omega))).trans (H.mono (by omega) (by omega))
      have q1 := (H.2.2 (B + 1) (by omega)).trans ((G.2.2 (B + 1) (by omega)).trans s1)
      refine hg ⟨h1, hV⟩ hD ⟨⟨rs, rs2, lw, jh, jm, -1, q0, a2, ⟨by omega, ⟨_, q1, fun i hi => ?_⟩, fun i hi => ?_⟩, (a4.frx G1 (by omega)).frm FH (by omega), (a5.frx G1 (by omega)).frm FH (by omega), (a6.frx G1 (by omega)).frm FH (by omega), (a7.frx G1 (by omega)).frm FH (by omega), a8, Or.inl ⟨rfl, rfl⟩⟩, (n2.frx G1 (by omega)).frm FH (by omega)⟩ ⟨by rw [FH.1]; exact c2, by rw [FH.2.1]; exact c3, fun q z1 z2 => (FH.2.2 q (by omega)).trans (G1 q (by omega))⟩
      · by_cases hi2 : i = n
        · subst hi2
          exact if_pos rfl
        · exact (if_neg hi2).trans (b2 i (by omega))
      · by_cases hi2 : i = n
        · subst hi2
          rw [upb_s]
          exact ⟨c0.frm FH (by omega), hV.1, hV.2, Or.inl rfl, Or.inl rfl, (by decide : 0 ≤ (0 : Int32).toInt ∧ (0 : Int32).toInt ≤ 1000000), (by decide : -10000 ≤ (0 : Int32).toInt ∧ (0 : Int32).toInt ≤ 10000), (by decide : -600 ≤ (0 : Int32).toInt ∧ (0 : Int32).toInt ≤ 900)⟩
        · rw [upb_n hi2]
          exact ⟨((b3 i (by omega)).1.frx G1 (by omega)).frm FH (by omega), (b3 i (by omega)).2⟩
    · simp only [u_11_0, u_11_0n, u_11_1, u_11_4, u_11_6, u_11_9, u_11_10, u_11_12, u_11_14, u_11_17, u_11_20, u_11_21, u_11_23, u_11_25, u_11_28, pm_O_some, pm_w_nil, pm_w_i, pm_w_l, pm_w_r, pm_w_n, pm_c_n, pm_c_i, pm_c_l, pm_c_r, pm_c_u, Nat.reduceAdd, Nat.reduceLeDiff, true_and, Option.toList_some, Option.toList_none, List.cons_append, List.nil_append, a1, gf_0_1, if_neg e1, s_within, w_far, one0, ite_not]
      have hb := hb (fun c => hV c.2)
      repeat' split
      all_goals first | (simp only [u_11_31, u_11_32, pm_O_some, pm_w_nil, pm_w_i, pm_w_l, pm_w_r, pm_w_n, pm_c_n, pm_c_i, pm_c_l, pm_c_r, pm_c_u, Nat.reduceAdd, Nat.reduceLeDiff, true_and, Option.toList_some, Option.toList_none, List.cons_append, List.nil_append]; exact hb) | exact absurd ⟨by assumption, by assumption⟩ hV
  · have e1 : (10 : Int32) ≤ nI n := nI_le (a := 10) (by omega) (by omega)
    simp only [u_11_0, u_11_0n, u_11_1, u_11_4, u_11_6, u_11_9, u_11_10, u_11_12, u_11_14, u_11_17, u_11_20, u_11_21, u_11_23, u_11_25, u_11_28, u_11_31, u_11_32, pm_O_some, pm_w_nil, pm_w_i, pm_w_l, pm_w_r, pm_w_n, pm_c_n, pm_c_i, pm_c_l, pm_c_r, pm_c_u, Nat.reduceAdd, Nat.reduceLeDiff, true_and, Option.toList_some, Option.toList_none, List.cons_append, List.nil_append, a1, gf_0_1, if_pos e1]
    exact hb (fun c => h1 c.1)
end SE6

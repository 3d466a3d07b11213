/-! THE REFERENCE'S CONSTRUCTOR, whole. -/
section RIN
variable {B : Nat} {X : pm_X} {h t : pm_H} {Q : Option Value → pm_H → Prop} {a k : Nat}
theorem ref_facts (ha : a = B + h.length) {hA : pm_H} (e : hA = h ++ [.inr (10, [.int 0, .ref (a + 1), .ref (a + 2), .ref (a + 3), .ref (a + 4), .ref (a + 5), .ref (a + 6), .int 0, .int 0, .int 0, .int 0, .ref (a + 7), .ref (a + 8), .int 0, .ref (a + 9), .ref (a + 10), .ref (a + 11), .ref (a + 12), .ref (a + 13), .int 0, .ref (a + 14), .int 0, .ref (a + 15), .ref (a + 16), .int 0, .int 0, .ref (a + 17), .ref (a + 18), .ref (a + 19), .ref (a + 20), .ref (a + 21), .int 0, .int 0, .ref (a + 22), .ref (a + 23)]), .inl (0, 10, .inl (fun _ => 0)), .inl (0, 10, .inl (fun _ => 0)), .inl (3, 20, .inl (fun _ => 0)), .inl (0, 240, .inl (fun _ => 0)), .inl (0, 240, .inl (fun _ => 0)), .inl (0, 200, .inl (fun _ => 0)), .inl (0, 8, .inl (fun _ => 0)), .inl (0, 192, .inl (fun _ => 0)), .inl (0, 8, .inl (fun _ => 0)), .inl (0, 192, .inl (fun _ => 0)), .inl (0, 10, .inl (fun _ => 0)), .inl (0, 10, .inl (fun _ => 0)), .inl (0, 10, .inl (fun _ => 0)), .inl (0, 400, .inl (fun _ => 0)), .inl (0, 12, .inl (fun _ => 0)), .inl (0, 12, .inl (fun _ => 0)), .inl (0, 168, .inl (fun _ => 0)), .inl (1, 320, .inr (.inl (fun _ => 0))), .inl (0, 8, .inl (fun _ => 0)), .inl (0, 8, .inl (fun _ => 0)), .inl (0, 1344, .inl (fun _ => 0)), .inl (0, 10, .inl (fun _ => 0)), .inl (1, 80, .inr (.inl (fun _ => 0)))]) : MC B hA a 0 0 0 0 0 0 0 0 0 0 0 0 ∧ pm_at B hA (a + 1) = some (.inl (0, 10, .inl (fun _ => 0))) ∧ pm_at B hA (a + 2) = some (.inl (0, 10, .inl (fun _ => 0))) ∧ pm_at B hA (a + 3) = some (.inl (3, 20, .inl (fun _ => 0))) ∧ pm_at B hA (a + 4) = some (.inl (0, 240, .inl (fun _ => 0))) ∧ pm_at B hA (a + 5) = some (.inl (0, 240, .inl (fun _ => 0))) ∧ pm_at B hA (a + 6) = some (.inl (0, 200, .inl (fun _ => 0))) ∧ pm_at B hA (a + 7) = some (.inl (0, 8, .inl (fun _ => 0))) ∧ pm_at B hA (a + 8) = some (.inl (0, 192, .inl (fun _ => 0))) ∧ pm_at B hA (a + 9) = some (.inl (0, 8, .inl (fun _ => 0))) ∧ pm_at B hA (a + 10) = some (.inl (0, 192, .inl (fun _ => 0))) ∧ pm_at B hA (a + 11) = some (.inl (0, 10, .inl (fun _ => 0))) ∧ pm_at B hA (a + 12) = some (.inl (0, 10, .inl (fun _ => 0))) ∧ pm_at B hA (a + 13) = some (.inl (0, 10, .inl (fun _ => 0))) ∧ pm_at B hA (a + 14) = some (.inl (0, 400, .inl (fun _ => 0))) ∧ pm_at B hA (a + 15) = some (.inl (0, 12, .inl (fun _ => 0))) ∧ pm_at B hA (a + 16) = some (.inl (0, 12, .inl (fun _ => 0))) ∧ pm_at B hA (a + 17) = some (.inl (0, 168, .inl (fun _ => 0))) ∧ pm_at B hA (a + 18) = some (.inl (1, 320, .inr (.inl (fun _ => 0)))) ∧ pm_at B hA (a + 19) = some (.inl (0, 8, .inl (fun _ => 0))) ∧ pm_at B hA (a + 20) = some (.inl (0, 8, .inl (fun _ => 0))) ∧ pm_at B hA (a + 21) = some (.inl (0, 1344, .inl (fun _ => 0))) ∧ pm_at B hA (a + 22) = some (.inl (0, 10, .inl (fun _ => 0))) ∧ pm_at B hA (a + 23) = some (.inl (1, 80, .inr (.inl (fun _ => 0)))) ∧ hA.length = h.length + 24 ∧ pm_sl hA ≤ pm_sl h + 10000 ∧ ∀ q, q < a → pm_at B hA q = pm_at B h q := by
  subst e
  refine ⟨ap_at 0 ha, ap_at 1 ha, ap_at 2 ha, ap_at 3 ha, ap_at 4 ha, ap_at 5 ha, ap_at 6 ha, ap_at 7 ha, ap_at 8 ha, ap_at 9 ha, ap_at 10 ha, ap_at 11 ha, ap_at 12 ha, ap_at 13 ha, ap_at 14 ha, ap_at 15 ha, ap_at 16 ha, ap_at 17 ha, ap_at 18 ha, ap_at 19 ha, ap_at 20 ha, ap_at 21 ha, ap_at 22 ha, ap_at 23 ha, by rw [List.length_append]; rfl, ?_, fun q hq => frx_app q (Or.inl (by omega))⟩
  rw [pm_sl_app]
  exact Nat.add_le_add_left (Nat.le_trans (Nat.le_of_eq (show _ = 3547 from rfl)) (by decide)) _
theorem prl_fin {p : Nat} {fp : Nat → Int32} (hp : p = 1000) (p2 : ∀ k, k < (prl p).length → fp k = nI ((prl p).getD k 0)) : ∀ k, k < 168 → fp k = nI (pr k) := by
  have e : prl p = PL := by rw [hp]; exact PL_eq
  intro k hk
  have := p2 k (by rw [e, PL_len]; exact hk)
  rw [e] at this
  exact this
theorem i_ref (ha : a = B + h.length) {bs : Nat → Bg} {tx sz lm ll : Nat → Nat} {tm : Nat → Nat → Tm} {dy : Nat → Int} (hQ : ∀ h', MI B h' a 0 bs 0 tx 0 sz tm 0 dy 0 lm ll none → h'.length = h.length + 24 → pm_sl h' ≤ pm_sl h + 10000 → (∀ q, q < a → pm_at B h' q = pm_at B h q) → Q none h') : PW B X 92 0 [some (.ref a), none, none, none, none] [] (h ++ [.inr (10, [.int 0, .null, .null, .null, .null, .null, .null, .int 0, .int 0, .int 0, .int 0, .null, .null, .int 0, .null, .null, .null, .null, .null, .int 0, .null, .int 0, .null, .null, .int 0, .int 0, .null, .null, .null, .null, .null, .int 0, .int 0, .null, .null])]) Q := by
  rw [i_refA ha]
  obtain ⟨hA, hAe⟩ : ∃ hA, hA = h ++ [.inr (10, [.int 0, .ref (a + 1), .ref (a + 2), .ref (a + 3), .ref (a + 4), .ref (a + 5), .ref (a + 6), .int 0, .int 0, .int 0, .int 0, .ref (a + 7), .ref (a + 8), .int 0, .ref (a + 9), .ref (a + 10), .ref (a + 11), .ref (a + 12), .ref (a + 13), .int 0, .ref (a + 14), .int 0, .ref (a + 15), .ref (a + 16), .int 0, .int 0, .ref (a + 17), .ref (a + 18), .ref (a + 19), .ref (a + 20), .ref (a + 21), .int 0, .int 0, .ref (a + 22), .ref (a + 23)]), .inl (0, 10, .inl (fun _ => 0)), .inl (0, 10, .inl (fun _ => 0)), .inl (3, 20, .inl (fun _ => 0)), .inl (0, 240, .inl (fun _ => 0)), .inl (0, 240, .inl (fun _ => 0)), .inl (0, 200, .inl (fun _ => 0)), .inl (0, 8, .inl (fun _ => 0)), .inl (0, 192, .inl (fun _ => 0)), .inl (0, 8, .inl (fun _ => 0)), .inl (0, 192, .inl (fun _ => 0)), .inl (0, 10, .inl (fun _ => 0)), .inl (0, 10, .inl (fun _ => 0)), .inl (0, 10, .inl (fun _ => 0)), .inl (0, 400, .inl (fun _ => 0)), .inl (0, 12, .inl (fun _ => 0)), .inl (0, 12, .inl (fun _ => 0)), .inl (0, 168, .inl (fun _ => 0)), .inl (1, 320, .inr (.inl (fun _ => 0))), .inl (0, 8, .inl (fun _ => 0)), .inl (0, 8, .inl (fun _ => 0)), .inl (0, 1344, .inl (fun _ => 0)), .inl (0, 10, .inl (fun _ => 0)), .inl (1, 80, .inr (.inl (fun _ => 0)))] := ⟨_, rfl⟩
  rw [← hAe]
  obtain ⟨c, e1, e2, e3, e4, e5, e6, e7, e8, e9, e10, e11, e12, e13, e14, e15, e16, e17, e18, e19, e20, e21, e22, e23, el, es, eo⟩ := ref_facts ha hAe
  clear hAe
  -- the end
  have fin : ∀ hc fp fb, Frm B hA hc (a + 5) (a + 18) → (∀ q, a + 6 ≤ q → q < a + 17 → pm_at B hc q = pm_at B hA q) → pm_at B hc (a + 17) = some (.inl (0, 168, .inl fp)) → (∀ k, k < 168 → fp k = nI (pr k)) → pm_at B hc (a + 5) = some (.inl (0, 240, .inl fb)) → (∀ k, k < 240 → fb k = 1) → Q none hc := by
    intro hc fp fb F F2 p1 p2 b1 b2
    have cc := c.frm F (by omega)
    have T : ∀ q, (q < a + 5 ∨ (a + 6 ≤ q ∧ q < a + 17) ∨ a + 18 ≤ q) → pm_at B hc q = pm_at B hA q := fun q hq => by
      rcases hq with z | z | z
      · exact F.2.2 q (by omega)
      · exact F2 q z.1 z.2
      · exact F.2.2 q (by omega)
    refine hQ hc ⟨⟨0, 0, 0, 0, 0, 0, 0, cc, Or.inl ⟨rfl, rfl⟩⟩, ⟨_, _, (T _ (by omega)).trans e1, (T _ (by omega)).trans e2, fun i hi => by omega⟩, ⟨_, (T _ (by omega)).trans e3, fun i hi => ?_⟩, ⟨_, _, (T _ (by omega)).trans e4, b1, fun i kd ax hi hk hx => ?_⟩, ⟨_, (T _ (by omega)).trans e6, fun i hi => by omega⟩, ⟨_, _, (T _ (by omega)).trans e7, (T _ (by omega)).trans e8, fun k hk => by omega⟩, ⟨_, _, _, (T _ (by omega)).trans e11, (T _ (by omega)).trans e12, (T _ (by omega)).trans e13, fun i hi => ?_⟩, ⟨_, (T _ (by omega)).trans e14, fun i hi => by omega⟩, ⟨_, _, (T _ (by omega)).trans e15, (T _ (by omega)).trans e16, fun i hi => by omega⟩, ⟨_, _, (T _ (by omega)).trans e9, (T _ (by omega)).trans e10⟩, ⟨_, (T _ (by omega)).trans e22⟩, ⟨_, (T _ (by omega)).trans e23⟩, fun _ => (0, 0, fun _ => 0), _, _, _, _, ⟨⟨_, _, _, _, _, _, _, _, _, _, _, _, cc⟩, ⟨fp, p1, p2⟩, (T _ (by omega)).trans e18, (T _ (by omega)).trans e19, (T _ (by omega)).trans e20, (T _ (by omega)).trans e21⟩, fun r hr => ⟨0, by omega, fun i hi => by omega, rfl, rfl, fun _ _ _ => rfl, rfl, rfl, fun k hk => ⟨rfl, (by decide : 0 < 2 ^ 20)⟩⟩⟩ (F.1.trans el) (by rw [F.2.1]; exact es) (fun q hq => (T q (by omega)).trans (eo q hq))
    · rw [show df 0 bs i = bg0 0 0 from if_neg (by omega)]
      exact ⟨rfl, rfl⟩
    · rw [show df 0 bs i = bg0 0 0 from if_neg (by omega)]
      exact ⟨rfl, b2 _ (by omega)⟩
    · rw [show df 0 bs i = bg0 0 0 from if_neg (by omega)]
      exact ⟨rfl, rfl, rfl⟩
  have below : ∀ d k hc fp fb w1 w3 w4, k + d = 240 → Frm B hA hc (a + 5) (a + 18) → (∀ q, a + 6 ≤ q → q < a + 17 → pm_at B hc q = pm_at B hA q) → pm_at B hc (a + 17) = some (.inl (0, 168, .inl fp)) → (∀ k, k < 168 → fp k = nI (pr k)) → pm_at B hc (a + 5) = some (.inl (0, 240, .inl fb)) → (∀ j, j < k → fb j = 1) → PW B X 92 269 [some (.ref a), w1, some (.int (nI k)), w3, w4] [] hc Q := by
    intro d
    induction d with
    | zero =>
      intro k hc fp fb w1 w3 w4 hk F F2 p1 p2 b1 b2
      obtain rfl : k = 240 := by omega
      have x1 : (240 : Int32) ≤ nI 240 := by decide
      simp only [u_92_269, u_92_270, u_92_273, u_92_289, pm_O_some, pm_w_nil, pm_w_i, pm_w_l, pm_w_r, pm_w_n, pm_c_n, pm_c_i, pm_c_l, pm_c_r, pm_c_u, Nat.reduceAdd, Nat.reduceLeDiff, true_and, Option.toList_some, Option.toList_none, List.cons_append, List.nil_append, if_pos x1]
      exact fin hc fp fb F F2 p1 p2 b1 b2
    | succ d ih =>
      intro k hc fp fb w1 w3 w4 hk F F2 p1 p2 b1 b2
      have x1 : ¬ (240 : Int32) ≤ nI k := nI_ge (b := 240) (by omega) (by decide)
      have cc := c.frm F (by omega)
      rw [u_92_269]
      simp only [u_92_270, u_92_273, u_92_276, u_92_276n, u_92_277, u_92_280, u_92_281, u_92_282, pm_O_some, pm_w_nil, pm_w_i, pm_w_l, pm_w_r, pm_w_n, pm_c_n, pm_c_i, pm_c_l, pm_c_r, pm_c_u, Nat.reduceAdd, Nat.reduceLeDiff, true_and, Option.toList_some, Option.toList_none, List.cons_append, List.nil_append, if_neg x1, cc.g5, b1, st_i (t := 0) (ix_240 (show k < 240 by omega)) rfl, nI_clamp (show k < 2 ^ 31 by omega), ty_0]
      have F3 := Frm.set (e := .inl (0, 240, .inl (upd fb k 1))) b1 rfl
      simp only [u_92_283, u_92_286, pm_O_some, pm_w_nil, pm_w_i, pm_w_l, pm_w_r, pm_w_n, pm_c_n, pm_c_i, pm_c_l, pm_c_r, pm_c_u, Nat.reduceAdd, Nat.reduceLeDiff, true_and, Option.toList_some, Option.toList_none, List.cons_append, List.nil_append, nI_1]
      refine ih (k + 1) _ fp _ _ _ _ (by omega) (F.trans (F3.mono (by omega) (by omega))) (fun q h1 h2 => (F3.2.2 q (by omega)).trans (F2 q h1 h2)) ((F3.2.2 _ (by omega)).trans p1) p2 (pm_at_self (pm_v_at b1)) (fun j hj => ?_)
      by_cases cj : j = k
      · rw [cj, upd_s]
      · rw [upd_n cj]
        exact b2 j (by omega)
  have outer : ∀ d p hc fp w3 w4, p + d = 1000 → 2 ≤ p → Frm B hA hc (a + 17) (a + 18) → pm_at B hc (a + 17) = some (.inl (0, 168, .inl fp)) → (∀ k, k < (prl p).length → fp k = nI ((prl p).getD k 0)) → PW B X 92 201 [some (.ref a), some (.int (nI (prl p).length)), some (.int (nI p)), w3, w4] [] hc Q := by
    intro d
    induction d with
    | zero =>
      intro p hc fp w3 w4 hp h2 F p1 p2
      have hp' : p = 1000 := by omega
      have x1 : (1000 : Int32) ≤ nI p := nI_le (a := 1000) (by omega) (by omega)
      have p3 := prl_fin hp' p2
      generalize (prl p).length = ql
      simp only [u_92_201, u_92_202, u_92_205, u_92_267, u_92_268, pm_O_some, pm_w_nil, pm_w_i, pm_w_l, pm_w_r, pm_w_n, pm_c_n, pm_c_i, pm_c_l, pm_c_r, pm_c_u, Nat.reduceAdd, Nat.reduceLeDiff, true_and, Option.toList_some, Option.toList_none, List.cons_append, List.nil_append, if_pos x1]
      exact below 240 0 hc fp _ _ _ _ (by omega) (F.mono (by omega) (by omega)) (fun q h1 h2 => F.2.2 q (by omega)) p1 p3 ((F.2.2 _ (by omega)).trans e5) (fun j hj => by omega)
    | succ d ih =>
      intro p hc fp w3 w4 hp h2 F p1 p2
      have x1 : ¬ (1000 : Int32) ≤ nI p := nI_ge (b := 1000) (by omega) (by decide)
      have cc := c.frm F (by omega)
      have hlen := prl_168 (p := p) (by omega)
      have fin2 : ∀ is, (is = 1 ∧ isP p (prl p).length) ∨ (is = 0 ∧ ¬ isP p (prl p).length) → PW B X 92 247 [some (.ref a), some (.int (nI (prl p).length)), some (.int (nI p)), some (.int is), some (.int (nI (prl p).length))] [] hc Q := by
        intro is his
        rcases his with ⟨rfl, z⟩ | ⟨rfl, z⟩
        · have en := prl_s h2 z
          have hlt : (prl p).length < 168 := by
            have := prl_168 (p := p + 1) (by omega)
            rw [en, List.length_append] at this
            simp only [List.length_cons, List.length_nil] at this
            omega
          simp only [u_92_247, u_92_248, u_92_251, u_92_251n, u_92_252, u_92_255, u_92_256, u_92_257, pm_O_some, pm_w_nil, pm_w_i, pm_w_l, pm_w_r, pm_w_n, pm_c_n, pm_c_i, pm_c_l, pm_c_r, pm_c_u, Nat.reduceAdd, Nat.reduceLeDiff, true_and, Option.toList_some, Option.toList_none, List.cons_append, List.nil_append, i10, if_false, cc.g26, p1, st_i (t := 0) (ix_168 hlt) rfl, nI_clamp (show (prl p).length < 2 ^ 31 by omega), ty_0]
          have F3 := Frm.set (e := .inl (0, 168, .inl (upd fp (prl p).length (nI p)))) p1 rfl
          simp only [u_92_258, u_92_261, u_92_264, pm_O_some, pm_w_nil, pm_w_i, pm_w_l, pm_w_r, pm_w_n, pm_c_n, pm_c_i, pm_c_l, pm_c_r, pm_c_u, Nat.reduceAdd, Nat.reduceLeDiff, true_and, Option.toList_some, Option.toList_none, List.cons_append, List.nil_append, nI_1]
          have := ih (p + 1) _ (upd fp (prl p).length (nI p)) (some (.int 1)) (some (.int (nI (prl p).length))) (by omega) (by omega) (F.trans F3) (pm_at_self (pm_v_at p1)) (fun k hk => ?_)
          · rw [en, List.length_append] at this
            exact this
          · rw [en, List.length_append] at hk
            simp only [List.length_cons, List.length_nil] at hk
            rw [en, List.getD_eq_getElem?_getD]
            by_cases ck : k = (prl p).length
            · rw [ck, upd_s, List.getElem?_append_right (Nat.le_refl _), Nat.sub_self]
              rfl
            · rw [upd_n ck, List.getElem?_append_left (by omega), ← List.getD_eq_getElem?_getD]
              exact p2 k (by omega)
        · have en := prl_n z
          simp only [u_92_247, u_92_248, u_92_261, u_92_264, pm_O_some, pm_w_nil, pm_w_i, pm_w_l, pm_w_r, pm_w_n, pm_c_n, pm_c_i, pm_c_l, pm_c_r, pm_c_u, Nat.reduceAdd, Nat.reduceLeDiff, true_and, Option.toList_some, Option.toList_none, List.cons_append, List.nil_append, i00, if_true, nI_1]
          have := ih (p + 1) hc fp (some (.int 0)) (some (.int (nI (prl p).length))) (by omega) (by omega) F p1 (by rw [en]; exact p2)
          rw [en] at this
          exact this
      have inner : ∀ e k is, k + e = (prl p).length → (is = 1 ∧ isP p k) ∨ (is = 0 ∧ ¬ isP p k) → PW B X 92 213 [some (.ref a), some (.int (nI (prl p).length)), some (.int (nI p)), some (.int is), some (.int (nI k))] [] hc Q := by
        intro e
        induction e with
        | zero =>
          intro k is hk his
          obtain rfl : k = (prl p).length := by omega
          have x2 : nI (prl p).length ≤ nI (prl p).length := nI_le (Nat.le_refl _) (by omega)
          simp only [u_92_213, u_92_215, u_92_216, pm_O_some, pm_w_nil, pm_w_i, pm_w_l, pm_w_r, pm_w_n, pm_c_n, pm_c_i, pm_c_l, pm_c_r, pm_c_u, Nat.reduceAdd, Nat.reduceLeDiff, true_and, Option.toList_some, Option.toList_none, List.cons_append, List.nil_append, if_pos x2]
          exact fin2 is his
        | succ e ihe =>
          intro k is hk his
          have hkl : k < (prl p).length := by omega
          have x2 : ¬ nI (prl p).length ≤ nI k := nI_ge hkl (by omega)
          have hm := prl_mem.mp (prl_ge hkl)
          rw [u_92_213]
          rcases his with ⟨rfl, z⟩ | ⟨rfl, z⟩
          · have ez : ¬ nI ((prl p).getD k 0) = 0 := mt (nI_e0 (by omega)).mp (by omega)
            have er : nI p - nI p / nI ((prl p).getD k 0) * nI ((prl p).getD k 0) = nI (p % (prl p).getD k 0) := nI_rem (by omega) (by omega) (by omega)
            have hml : p % (prl p).getD k 0 < (prl p).getD k 0 := Nat.mod_lt _ (by omega)
            by_cases cm : p % (prl p).getD k 0 = 0
            · have x3 : nI (p % (prl p).getD k 0) = 0 := by rw [cm]; rfl
              simp only [u_92_215, u_92_216, u_92_219, u_92_220, u_92_223, u_92_224, u_92_224n, u_92_225, u_92_228, u_92_230, u_92_231, u_92_232, u_92_235, u_92_236, u_92_239, u_92_240, u_92_241, u_92_244, pm_O_some, pm_w_nil, pm_w_i, pm_w_l, pm_w_r, pm_w_n, pm_c_n, pm_c_i, pm_c_l, pm_c_r, pm_c_u, Nat.reduceAdd, Nat.reduceLeDiff, true_and, Option.toList_some, Option.toList_none, List.cons_append, List.nil_append, if_neg x2, i10, if_false, cc.g26, p1, ld_i (t := 0) (ix_168 (show k < 168 by omega)) rfl, nI_clamp (show k < 2 ^ 31 by omega), p2 k hkl, ez, not_false_eq_true, er, x3, if_true, nI_1]
              exact ihe (k + 1) 0 (by omega) (Or.inr ⟨rfl, fun y => y k (by omega) cm⟩)
            · have x3 : ¬ nI (p % (prl p).getD k 0) = 0 := mt (nI_e0 (by omega)).mp cm
              simp only [u_92_215, u_92_216, u_92_219, u_92_220, u_92_223, u_92_224, u_92_224n, u_92_225, u_92_228, u_92_230, u_92_231, u_92_232, u_92_235, u_92_236, u_92_239, u_92_240, u_92_241, u_92_244, pm_O_some, pm_w_nil, pm_w_i, pm_w_l, pm_w_r, pm_w_n, pm_c_n, pm_c_i, pm_c_l, pm_c_r, pm_c_u, Nat.reduceAdd, Nat.reduceLeDiff, true_and, Option.toList_some, Option.toList_none, List.cons_append, List.nil_append, if_neg x2, i10, if_false, cc.g26, p1, ld_i (t := 0) (ix_168 (show k < 168 by omega)) rfl, nI_clamp (show k < 2 ^ 31 by omega), p2 k hkl, ez, not_false_eq_true, er, x3, nI_1]
              refine ihe (k + 1) 1 (by omega) (Or.inl ⟨rfl, fun j hj => ?_⟩)
              by_cases cj : j = k
              · rw [cj]; exact cm
              · exact z j (by omega)
          · simp only [u_92_215, u_92_216, u_92_219, u_92_220, u_92_239, u_92_240, u_92_241, u_92_244, pm_O_some, pm_w_nil, pm_w_i, pm_w_l, pm_w_r, pm_w_n, pm_c_n, pm_c_i, pm_c_l, pm_c_r, pm_c_u, Nat.reduceAdd, Nat.reduceLeDiff, true_and, Option.toList_some, Option.toList_none, List.cons_append, List.nil_append, if_neg x2, i00, if_true, nI_1]
            exact ihe (k + 1) 0 (by omega) (Or.inr ⟨rfl, fun y => z (fun j hj => y j (by omega))⟩)
      simp only [u_92_201, u_92_202, u_92_205, u_92_208, u_92_209, u_92_210, u_92_211, pm_O_some, pm_w_nil, pm_w_i, pm_w_l, pm_w_r, pm_w_n, pm_c_n, pm_c_i, pm_c_l, pm_c_r, pm_c_u, Nat.reduceAdd, Nat.reduceLeDiff, true_and, Option.toList_some, Option.toList_none, List.cons_append, List.nil_append, if_neg x1]
      exact inner _ 0 1 (Nat.zero_add _) (Or.inl ⟨rfl, fun j hj => by omega⟩)
  simp only [u_92_197, u_92_198, u_92_199, u_92_200, pm_O_some, pm_w_nil, pm_w_i, pm_w_l, pm_w_r, pm_w_n, pm_c_n, pm_c_i, pm_c_l, pm_c_r, pm_c_u, Nat.reduceAdd, Nat.reduceLeDiff, true_and, Option.toList_some, Option.toList_none, List.cons_append, List.nil_append]
  exact outer 998 2 hA _ _ _ (by omega) (by omega) Frm.rfl' e17 (fun k hk => absurd hk (by rw [show (prl 2).length = 0 from rfl]; omega))
end RIN

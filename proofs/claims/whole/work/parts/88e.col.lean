/-! THE REFERENCE'S RANK: one column. -/
def RWv (f : Nat → Int64) (N : Nat) (W : Nat → Nat → Int) : Prop := ∀ r j, r < N → j < 4 → f (4 * r + j) = lI (W r j)
def SWr (W : Nat → Nat → Int) (p rk r : Nat) : Nat → Int := if r = p then W rk else W r
/-- the row that comes out of r's -/
def Cln (W W' : Nat → Nat → Int) (p rk c r : Nat) : Prop := ∃ g : Nat, 1 ≤ g ∧ (∀ j, j < 4 → SWr W p rk r j * W p c - W p j * SWr W p rk r c = (g : Int) * W' r j) ∧ ((SWr W p rk r 0 * W p c - W p 0 * SWr W p rk r c = 0 ∧ SWr W p rk r 1 * W p c - W p 1 * SWr W p rk r c = 0 ∧ SWr W p rk r 2 * W p c - W p 2 * SWr W p rk r c = 0) → -1 ≤ W' r 3 ∧ W' r 3 ≤ 1)
section COL
variable {B : Nat} {X : pm_X} {h : pm_H} {Q : Option Value → pm_H → Prop} {m k j c rk N : Nat} {f g f0 : Nat → Int64} {gr x0 x7 x8 x9 x10 x13 x19 x21 x24 x25 x31 x32 : Int32} {W : Nat → Nat → Int} {w5 w6 w7 w8 w9 w10 w11 : Option Value}
set_option maxHeartbeats 1000000 in
theorem z_col (v : pm_v B h (m + 23)) (cc : MC B h m x0 x7 x8 x9 x10 x13 x19 x21 x24 x25 x31 x32) (hc : c < 4) (hN : N ≤ 20) (hk : rk ≤ N) (hW : RWv f N W) (hB : ∀ r j, rk ≤ r → r < N → j < 4 → (W r j).natAbs ≤ 1000000)
    (h0 : (∀ r, rk ≤ r → r < N → W r c = 0) → ∀ w5 w6 w7 w8 w9 w10 w11, PW B X 126 112 [some (.ref m), some (.int gr), some (.int (nI N)), some (.int (nI rk)), some (.int (nI (c + 1))), w5, w6, w7, w8, w9, w10, w11] [] (rwh B h m f) Q)
    (h1 : ∀ p f' W', rk ≤ p → p < N → W p c ≠ 0 → RWv f' N W' → (∀ j, j < 4 → W' rk j = W p j) → (∀ r, rk < r → r < N → Cln W W' p rk c r) → ∀ w5 w6 w7 w8 w9 w10 w11, PW B X 126 112 [some (.ref m), some (.int gr), some (.int (nI N)), some (.int (nI (rk + 1))), some (.int (nI (c + 1))), w5, w6, w7, w8, w9, w10, w11] [] (rwh B h m f') Q) :
    PW B X 126 112 [some (.ref m), some (.int gr), some (.int (nI N)), some (.int (nI rk)), some (.int (nI c)), w5, w6, w7, w8, w9, w10, w11] [] (rwh B h m f) Q := by
  have C : ∀ {f : Nat → Int64}, MC B (rwh B h m f) m x0 x7 x8 x9 x10 x13 x19 x21 x24 x25 x31 x32 := fun {f} => rw_c v cc
  -- rows, once the pivot stands
  have rows : ∀ p, rk ≤ p → p < N → W p c ≠ 0 → ∀ d r fc W' w7 w8 w9 w10 w11, r + d = N → rk < r → RWv fc N W' → (∀ j, j < 4 → W' rk j = W p j) → (∀ r', rk < r' → r' < r → Cln W W' p rk c r') → (∀ r', r ≤ r' → r' < N → ∀ j, j < 4 → W' r' j = SWr W p rk r' j) → PW B X 126 226 [some (.ref m), some (.int gr), some (.int (nI N)), some (.int (nI rk)), some (.int (nI c)), some (.int (nI p)), some (.int (nI r)), w7, w8, w9, w10, w11] [] (rwh B h m fc) Q := by
    intro p hp1 hp2 hp3 d
    induction d with
    | zero =>
      intro r fc W' w7 w8 w9 w10 w11 hr hrk i1 i2 i3 i4
      obtain rfl : r = N := by omega
      have e1 : nI r ≤ nI r := nI_le (Nat.le_refl _) (by omega)
      simp only [u_126_226, u_126_228, u_126_229, u_126_328, u_126_331, u_126_334, pm_O_some, pm_w_nil, pm_w_i, pm_w_l, pm_w_r, pm_w_n, pm_c_n, pm_c_i, pm_c_l, pm_c_r, pm_c_u, Nat.reduceAdd, Nat.reduceLeDiff, true_and, Option.toList_some, Option.toList_none, List.cons_append, List.nil_append, if_pos e1, nI_1]
      exact h1 p fc W' hp1 hp2 hp3 i1 i2 i3 _ _ _ _ _ _ _
    | succ d ih =>
      intro r fc W' w7 w8 w9 w10 w11 hr hrk i1 i2 i3 i4
      have hrN : r < N := by omega
      have e1 : ¬ nI N ≤ nI r := nI_ge hrN (by omega)
      have bP : ∀ j, j < 4 → (W p j).natAbs ≤ 1000000 := fun j hj => hB p j hp1 hp2 hj
      have bS : ∀ j, j < 4 → (SWr W p rk r j).natAbs ≤ 1000000 := fun j hj => by
        unfold SWr
        split
        · exact hB rk j (Nat.le_refl _) (by omega) hj
        · exact hB r j (by omega) hrN hj
      have tup : fc (4 * rk + c) = lI (W p c) := by rw [i1 rk c (by omega) hc, i2 c hc]
      have tow : fc (4 * r + c) = lI (SWr W p rk r c) := by rw [i1 r c hrN hc, i4 r (Nat.le_refl _) hrN c hc]
      have bR : ∀ j, j < 4 → (SWr W p rk r j * W p c - W p j * SWr W p rk r c).natAbs < 2 ^ 61 := fun j hj => by
        have t1 := Int.natAbs_sub_le (SWr W p rk r j * W p c) (W p j * SWr W p rk r c)
        rw [Int.natAbs_mul, Int.natAbs_mul] at t1
        have t2 := Nat.mul_le_mul (bS j hj) (bP c hc)
        have t3 := Nat.mul_le_mul (bP j hj) (bS c hc)
        omega
      have inner : ∀ e j fj, j + e = 4 → (∀ q, ¬ (4 * r ≤ q ∧ q < 4 * r + 4) → fj q = fc q) → (∀ jj, jj < j → fj (4 * r + jj) = lI (SWr W p rk r jj * W p c - W p jj * SWr W p rk r c)) → (∀ jj, j ≤ jj → jj < 4 → fj (4 * r + jj) = lI (SWr W p rk r jj)) → PW B X 126 262 [some (.ref m), some (.int gr), some (.int (nI N)), some (.int (nI rk)), some (.int (nI c)), some (.int (nI p)), some (.int (nI r)), some (.long (lI (W p c))), none, some (.long (lI (SWr W p rk r c))), none, some (.int (nI j))] [] (rwh B h m fj) Q := by
        intro e
        induction e with
        | zero =>
          intro j fj hj j1 j2 j3
          obtain rfl : j = 4 := by omega
          have e2 : (4 : Int32) ≤ nI 4 := by decide
          simp only [u_126_262, u_126_264, u_126_265, u_126_316, u_126_316n, u_126_317, u_126_319, pm_O_some, pm_w_nil, pm_w_i, pm_w_l, pm_w_r, pm_w_n, pm_c_n, pm_c_i, pm_c_l, pm_c_r, pm_c_u, Nat.reduceAdd, Nat.reduceLeDiff, true_and, Option.toList_some, Option.toList_none, List.cons_append, List.nil_append, if_pos e2, C.io]
          refine z_clean (V := fun j => SWr W p rk r j * W p c - W p j * SWr W p rk r c) v cc (by omega) (fun jj hjj => j2 jj hjj) bR (fun f' w g k1 k2 k3 k4 k5 => ?_)
          simp only [u_126_322, u_126_325, pm_O_some, pm_w_nil, pm_w_i, pm_w_l, pm_w_r, pm_w_n, pm_c_n, pm_c_i, pm_c_l, pm_c_r, pm_c_u, Nat.reduceAdd, Nat.reduceLeDiff, true_and, Option.toList_some, Option.toList_none, List.cons_append, List.nil_append, nI_1]
          refine ih (r + 1) f' (ups W' r w) _ _ _ _ _ (by omega) (by omega) (fun r' j' hr' hj' => ?_) (fun j hj => ?_) (fun r' h1 h2 => ?_) (fun r' h1 h2 j hj => ?_)
          · by_cases cr : r' = r
            · subst cr
              rw [ups_s]
              exact k2 j' hj'
            · rw [ups_n cr, k1 _ (by omega), j1 _ (by omega)]
              exact i1 r' j' hr' hj'
          · rw [ups_n (by omega)]
            exact i2 j hj
          · by_cases cr : r' = r
            · subst cr
              unfold Cln
              rw [ups_s]
              exact ⟨g, k3, k4, k5⟩
            · obtain ⟨g', u1, u2, u3⟩ := i3 r' h1 (by omega)
              unfold Cln
              rw [ups_n cr]
              exact ⟨g', u1, u2, u3⟩
          · rw [ups_n (by omega)]
            exact i4 r' (by omega) h2 j hj
        | succ e ihe =>
          intro j fj hj j1 j2 j3
          have hj4 : j < 4 := by omega
          have e2 : ¬ (4 : Int32) ≤ nI j := nI_ge (b := 4) hj4 (by decide)
          have t1 : fj (4 * r + j) = lI (SWr W p rk r j) := j3 j (Nat.le_refl _) hj4
          have t2 : fj (4 * rk + j) = lI (W p j) := by rw [j1 _ (by omega), i1 rk j (by omega) hj4, i2 j hj4]
          rw [u_126_262]
          simp only [u_126_264, u_126_265, u_126_268, u_126_268n, u_126_269, u_126_272, u_126_273, u_126_275, u_126_276, u_126_278, u_126_279, u_126_279n, u_126_280, u_126_283, u_126_284, u_126_286, u_126_287, u_126_289, u_126_290, u_126_291, u_126_293, u_126_294, u_126_294n, u_126_295, u_126_298, u_126_299, u_126_300, u_126_301, u_126_303, u_126_304, u_126_305, u_126_307, u_126_308, u_126_309, u_126_310, u_126_313, pm_O_some, pm_w_nil, pm_w_i, pm_w_l, pm_w_r, pm_w_n, pm_c_n, pm_c_i, pm_c_l, pm_c_r, pm_c_u, Nat.reduceAdd, Nat.reduceLeDiff, true_and, Option.toList_some, Option.toList_none, List.cons_append, List.nil_append, if_neg e2, C.g34, rw_at v, x4, ld_l (ix_80 (show 4 * r + j < 80 by omega)), ld_l (ix_80 (show 4 * rk + j < 80 by omega)), st_l (ix_80 (show 4 * r + j < 80 by omega)), nI_clamp (show 4 * r + j < 2 ^ 31 by omega), nI_clamp (show 4 * rk + j < 2 ^ 31 by omega), t1, t2, lI_mul, lI_sub, rw_set, nI_1]
          refine ihe (j + 1) _ (by omega) (fun q hq => by rw [updL_n (by omega)]; exact j1 q hq) (fun jj hjj => ?_) (fun jj h1 h2 => by rw [updL_n (by omega)]; exact j3 jj (by omega) h2)
          by_cases cj : jj = j
          · rw [cj, updL_s]
          · rw [updL_n (by omega)]
            exact j2 jj (by omega)
      rw [u_126_226]
      simp only [u_126_228, u_126_229, u_126_232, u_126_232n, u_126_233, u_126_236, u_126_237, u_126_238, u_126_239, u_126_241, u_126_242, u_126_243, u_126_245, u_126_245n, u_126_246, u_126_249, u_126_250, u_126_252, u_126_253, u_126_255, u_126_256, u_126_257, u_126_259, u_126_260, pm_O_some, pm_w_nil, pm_w_i, pm_w_l, pm_w_r, pm_w_n, pm_c_n, pm_c_i, pm_c_l, pm_c_r, pm_c_u, Nat.reduceAdd, Nat.reduceLeDiff, true_and, Option.toList_some, Option.toList_none, List.cons_append, List.nil_append, if_neg e1, C.g34, rw_at v, x4, ld_l (ix_80 (show 4 * rk + c < 80 by omega)), ld_l (ix_80 (show 4 * r + c < 80 by omega)), nI_clamp (show 4 * rk + c < 2 ^ 31 by omega), nI_clamp (show 4 * r + c < 2 ^ 31 by omega), tup, tow]
      exact inner 4 0 fc (by omega) (fun _ _ => rfl) (fun jj hjj => by omega) (fun jj _ hjj => by rw [i1 r jj hrN hjj, i4 r (Nat.le_refl _) hrN jj hjj])
  -- the pivot's row is brought up
  have swap : ∀ p, rk ≤ p → p < N → W p c ≠ 0 → ∀ d j fc w7 w8 w9 w10 w11, j + d = 4 → (∀ r jj, r < N → jj < 4 → fc (4 * r + jj) = lI (if jj < j then (if r = rk then W p jj else SWr W p rk r jj) else W r jj)) → PW B X 126 159 [some (.ref m), some (.int gr), some (.int (nI N)), some (.int (nI rk)), some (.int (nI c)), some (.int (nI p)), some (.int (nI j)), w7, w8, w9, w10, w11] [] (rwh B h m fc) Q := by
    intro p hp1 hp2 hp3 d
    induction d with
    | zero =>
      intro j fc w7 w8 w9 w10 w11 hj i1
      obtain rfl : j = 4 := by omega
      have e2 : (4 : Int32) ≤ nI 4 := by decide
      simp only [u_126_159, u_126_161, u_126_162, u_126_221, u_126_222, u_126_223, u_126_224, pm_O_some, pm_w_nil, pm_w_i, pm_w_l, pm_w_r, pm_w_n, pm_c_n, pm_c_i, pm_c_l, pm_c_r, pm_c_u, Nat.reduceAdd, Nat.reduceLeDiff, true_and, Option.toList_some, Option.toList_none, List.cons_append, List.nil_append, if_pos e2, nI_1]
      refine rows p hp1 hp2 hp3 (N - (rk + 1)) (rk + 1) fc (fun r => if r = rk then W p else SWr W p rk r) _ _ _ _ _ (by omega) (by omega) (fun r jj hr hjj => ?_) (fun jj hjj => by rw [if_pos rfl]) (fun r' h1 h2 => by omega) (fun r' h1 h2 jj hjj => by rw [if_neg (by omega)])
      rw [i1 r jj hr hjj, if_pos hjj]
      congr 1
      show _ = (if r = rk then W p else SWr W p rk r) jj
      by_cases cr : r = rk
      · rw [if_pos cr, if_pos cr]
      · rw [if_neg cr, if_neg cr]
    | succ d ih =>
      intro j fc w7 w8 w9 w10 w11 hj i1
      have hj4 : j < 4 := by omega
      have e2 : ¬ (4 : Int32) ≤ nI j := nI_ge (b := 4) hj4 (by decide)
      have t1 := i1 p j hp2 hj4
      have t2 := i1 rk j (by omega) hj4
      rw [if_neg (by omega)] at t1 t2
      rw [u_126_159]
      simp only [u_126_161, u_126_162, u_126_165, u_126_165n, u_126_166, u_126_169, u_126_170, u_126_172, u_126_173, u_126_175, u_126_176, u_126_177, u_126_179, u_126_179n, u_126_180, u_126_183, u_126_184, u_126_186, u_126_187, u_126_189, u_126_190, u_126_190n, u_126_191, u_126_194, u_126_195, u_126_196, u_126_197, u_126_199, u_126_200, u_126_201, u_126_202, u_126_202n, u_126_203, u_126_206, u_126_207, u_126_208, u_126_209, u_126_211, u_126_212, u_126_214, u_126_215, u_126_218, pm_O_some, pm_w_nil, pm_w_i, pm_w_l, pm_w_r, pm_w_n, pm_c_n, pm_c_i, pm_c_l, pm_c_r, pm_c_u, Nat.reduceAdd, Nat.reduceLeDiff, true_and, Option.toList_some, Option.toList_none, List.cons_append, List.nil_append, if_neg e2, C.g34, rw_at v, x4, ld_l (ix_80 (show 4 * p + j < 80 by omega)), ld_l (ix_80 (show 4 * rk + j < 80 by omega)), st_l (ix_80 (show 4 * p + j < 80 by omega)), st_l (ix_80 (show 4 * rk + j < 80 by omega)), nI_clamp (show 4 * p + j < 2 ^ 31 by omega), nI_clamp (show 4 * rk + j < 2 ^ 31 by omega), t1, t2, rw_set, nI_1]
      refine ih (j + 1) _ _ _ _ _ _ (by omega) (fun r jj hr hjj => ?_)
      by_cases cj : jj = j
      · subst cj
        rw [if_pos (by omega)]
        by_cases cr : r = rk
        · subst cr
          rw [updL_s, if_pos rfl]
        · rw [updL_n (by omega), if_neg cr]
          unfold SWr
          by_cases cp : r = p
          · subst cp
            rw [updL_s, if_pos rfl]
          · rw [updL_n (by omega), if_neg cp, i1 r jj hr hjj, if_neg (by omega)]
      · rw [updL_n (by omega), updL_n (by omega), i1 r jj hr hjj]
        by_cases c1 : jj < j
        · rw [if_pos c1, if_pos (show jj < j + 1 by omega)]
        · rw [if_neg c1, if_neg (show ¬ jj < j + 1 by omega)]
  -- the search
  have find : ∀ d p w6 w7 w8 w9 w10 w11, p + d = N → rk ≤ p → (∀ r, rk ≤ r → r < p → W r c = 0) → PW B X 126 121 [some (.ref m), some (.int gr), some (.int (nI N)), some (.int (nI rk)), some (.int (nI c)), some (.int (nI p)), w6, w7, w8, w9, w10, w11] [] (rwh B h m f) Q := by
    intro d
    induction d with
    | zero =>
      intro p w6 w7 w8 w9 w10 w11 hp hrk i1
      obtain rfl : p = N := by omega
      have e1 : nI p ≤ nI p := nI_le (Nat.le_refl _) (by omega)
      simp only [u_126_121, u_126_123, u_126_124, u_126_150, u_126_152, u_126_153, u_126_331, u_126_334, pm_O_some, pm_w_nil, pm_w_i, pm_w_l, pm_w_r, pm_w_n, pm_c_n, pm_c_i, pm_c_l, pm_c_r, pm_c_u, Nat.reduceAdd, Nat.reduceLeDiff, true_and, Option.toList_some, Option.toList_none, List.cons_append, List.nil_append, if_pos e1, nI_1]
      exact h0 i1 _ _ _ _ _ _ _
    | succ d ih =>
      intro p w6 w7 w8 w9 w10 w11 hp hrk i1
      have hpN : p < N := by omega
      have e1 : ¬ nI N ≤ nI p := nI_ge hpN (by omega)
      have t1 := hW p c hpN hc
      have hb := hB p c hrk hpN hc
      have le : (lI (W p c) = 0) ↔ W p c = 0 := lI_eq (a := W p c) (b := 0) (by omega) (by omega)
      by_cases cz : W p c = 0
      · have e2 : lI (W p c) = 0 := le.mpr cz
        rw [u_126_121]
        simp only [u_126_123, u_126_124, u_126_127, u_126_127n, u_126_128, u_126_131, u_126_132, u_126_134, u_126_135, u_126_137, u_126_138, u_126_139, u_126_140, u_126_141, u_126_144, u_126_147, pm_O_some, pm_w_nil, pm_w_i, pm_w_l, pm_w_r, pm_w_n, pm_c_n, pm_c_i, pm_c_l, pm_c_r, pm_c_u, Nat.reduceAdd, Nat.reduceLeDiff, true_and, Option.toList_some, Option.toList_none, List.cons_append, List.nil_append, if_neg e1, C.g34, rw_at v, x4, ld_l (ix_80 (show 4 * p + c < 80 by omega)), nI_clamp (show 4 * p + c < 2 ^ 31 by omega), t1, lc_eq, e2, not_true, if_false, nI_1]
        refine ih (p + 1) _ _ _ _ _ _ (by omega) (by omega) (fun r h1 h2 => ?_)
        by_cases cr : r = p
        · rw [cr]; exact cz
        · exact i1 r h1 (by omega)
      · have e2 : ¬ lI (W p c) = 0 := mt le.mp cz
        simp only [u_126_121, u_126_123, u_126_124, u_126_127, u_126_127n, u_126_128, u_126_131, u_126_132, u_126_134, u_126_135, u_126_137, u_126_138, u_126_139, u_126_140, u_126_141, u_126_150, u_126_152, u_126_153, u_126_156, u_126_157, pm_O_some, pm_w_nil, pm_w_i, pm_w_l, pm_w_r, pm_w_n, pm_c_n, pm_c_i, pm_c_l, pm_c_r, pm_c_u, Nat.reduceAdd, Nat.reduceLeDiff, true_and, Option.toList_some, Option.toList_none, List.cons_append, List.nil_append, if_neg e1, C.g34, rw_at v, x4, ld_l (ix_80 (show 4 * p + c < 80 by omega)), nI_clamp (show 4 * p + c < 2 ^ 31 by omega), t1, lc_eq, e2, not_false_eq_true, if_true]
        exact swap p hrk hpN cz 4 0 f _ _ _ _ _ (by omega) (fun r jj hr hjj => by rw [if_neg (by omega)]; exact hW r jj hr hjj)
  have e4 : ¬ (4 : Int32) ≤ nI c := nI_ge (b := 4) hc (by decide)
  simp only [u_126_112, u_126_114, u_126_115, u_126_118, u_126_119, pm_O_some, pm_w_nil, pm_w_i, pm_w_l, pm_w_r, pm_w_n, pm_c_n, pm_c_i, pm_c_l, pm_c_r, pm_c_u, Nat.reduceAdd, Nat.reduceLeDiff, true_and, Option.toList_some, Option.toList_none, List.cons_append, List.nil_append, if_neg e4]
  exact find (N - rk) rk _ _ _ _ _ _ (by omega) (Nat.le_refl _) (fun r h1 h2 => by omega)
end COL

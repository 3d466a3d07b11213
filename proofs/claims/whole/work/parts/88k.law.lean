/-! THE LAW: one call of each kind. -/
def LWS (B : Nat) (h : pm_H) (n : Nat) (bs : Nat → Bg) (ln : Nat) (tx : Nat → Nat) (nr : Nat) (sz : Nat → Nat) (tm : Nat → Nat → Tm) (nd : Nat) (dy : Nat → Int) (nl : Nat) (lm ll : Nat → Nat) (jk : Option (Nat × Nat)) : Prop := CC B h n bs ln tx nr sz tm nd dy nl lm ll jk ∧ MI B h (B + 71) n bs ln tx nr sz tm nd dy nl lm ll jk ∧ h.length = 95 + 8 * n ∧ pm_sl h ≤ 20000 + 89 * n
def NXT (B : Nat) (X : pm_X) (i : Nat) (Q : Option Value → pm_H → Prop) : Prop := ∀ h' n bs ln tx nr sz tm nd dy nl lm ll jk, LWS B h' n bs ln tx nr sz tm nd dy nl lm ll jk → PW B X 146 823 [some (.ref X.1), some (.ref B), some (.ref (B + 71)), some (.int (nI i))] [] h' Q
def IXS (X : pm_X) (i : Nat) : Prop := i < 2 ^ 30 ∧ pm_ix (nI (i + 1)) X.2.1 = true ∧ pm_ix (nI (i + 2)) X.2.1 = true ∧ pm_ix (nI (i + 3)) X.2.1 = true ∧ pm_ix (nI (i + 4)) X.2.1 = true ∧ pm_ix (nI (i + 5)) X.2.1 = true
theorem nI_p2 {k : Nat} : nI k + 2 = nI (k + 2) := nI_add k 2
theorem nI_p3 {k : Nat} : nI k + 3 = nI (k + 3) := nI_add k 3
theorem nI_p4 {k : Nat} : nI k + 4 = nI (k + 4) := nI_add k 4
theorem nI_p5 {k : Nat} : nI k + 5 = nI (k + 5) := nI_add k 5
theorem eqs {α : Type} (a : α) : (a = a) = True := eq_self a
section LWC
variable {B : Nat} {X : pm_X} {h h' h1 h2 : pm_H} {Q : Option Value → pm_H → Prop} {m n ln nr nd nl i : Nat} {bs : Nat → Bg} {tx sz lm ll : Nat → Nat} {tm : Nat → Nat → Tm} {dy : Nat → Int} {jk : Option (Nat × Nat)}
theorem MI.kp (n1 : MI B h m n bs ln tx nr sz tm nd dy nl lm ll jk) (T : ∀ q, m ≤ q → q < m + 24 → pm_at B h' q = pm_at B h q) : MI B h' m n bs ln tx nr sz tm nd dy nl lm ll jk := by
  obtain ⟨⟨x8, x9, x13, jh, jm, x31, x32, c, cj⟩, ⟨f1, f2, a1, a2, a3⟩, ⟨f3, a4, a5⟩, ⟨f4, f5, a6, a7, a8⟩, ⟨f6, a9, a10⟩, ⟨f7, f8, a11, a12, a13⟩, ⟨f9, f10, f11, a14, a15, a16, a17⟩, ⟨f12, a18, a19⟩, ⟨f13, f14, a20, a21, a22⟩, ⟨f15, f16, a23, a24⟩, ⟨f17, a25⟩, ⟨f18, a26⟩, R, ⟨fl, fu, fs, fw, ⟨_, ⟨fp, p1, p2⟩, b1, b2, b3, b4⟩, n3⟩⟩ := n1
  have cc : MC B h' m (nI n) (nI ln) x8 x9 (nI nr) x13 (nI nd) (nI nl) jh jm x31 x32 := (T _ (by omega) (by omega)).trans c
  exact ⟨⟨_, _, _, _, _, _, _, cc, cj⟩, ⟨f1, f2, (T _ (by omega) (by omega)).trans a1, (T _ (by omega) (by omega)).trans a2, a3⟩, ⟨f3, (T _ (by omega) (by omega)).trans a4, a5⟩, ⟨f4, f5, (T _ (by omega) (by omega)).trans a6, (T _ (by omega) (by omega)).trans a7, a8⟩, ⟨f6, (T _ (by omega) (by omega)).trans a9, a10⟩, ⟨f7, f8, (T _ (by omega) (by omega)).trans a11, (T _ (by omega) (by omega)).trans a12, a13⟩, ⟨f9, f10, f11, (T _ (by omega) (by omega)).trans a14, (T _ (by omega) (by omega)).trans a15, (T _ (by omega) (by omega)).trans a16, a17⟩, ⟨f12, (T _ (by omega) (by omega)).trans a18, a19⟩, ⟨f13, f14, (T _ (by omega) (by omega)).trans a20, (T _ (by omega) (by omega)).trans a21, a22⟩, ⟨f15, f16, (T _ (by omega) (by omega)).trans a23, (T _ (by omega) (by omega)).trans a24⟩, ⟨f17, (T _ (by omega) (by omega)).trans a25⟩, ⟨f18, (T _ (by omega) (by omega)).trans a26⟩, R, ⟨fl, fu, fs, fw, ⟨⟨_, _, _, _, _, _, _, _, _, _, _, _, cc⟩, ⟨fp, (T _ (by omega) (by omega)).trans p1, p2⟩, (T _ (by omega) (by omega)).trans b1, (T _ (by omega) (by omega)).trans b2, (T _ (by omega) (by omega)).trans b3, (T _ (by omega) (by omega)).trans b4⟩, n3⟩⟩
theorem MI.kp' (n1 : MI B h (B + 71) n bs ln tx nr sz tm nd dy nl lm ll jk) (k : Kp B h h') : MI B h' (B + 71) n bs ln tx nr sz tm nd dy nl lm ll jk := n1.kp (fun q h1 h2 => k.2.2 q h1 (by omega))
theorem LWS.mk (c : CC B h1 n bs ln tx nr sz tm nd dy nl lm ll jk) (m : MI B h2 (B + 71) n bs ln tx nr sz tm nd dy nl lm ll jk) (F : Frm B h1 h2 (B + 71) (B + 71 + 24)) (hl : h1.length = 95 + 8 * n) (hs : pm_sl h1 ≤ 20000 + 89 * n) : LWS B h2 n bs ln tx nr sz tm nd dy nl lm ll jk :=
  ⟨c.fx (F.mono (by omega) (by omega) : Frm B h1 h2 (B + 71) (B + 95)).fx, m, F.1.trans hl, by rw [F.2.1]; exact hs⟩
theorem lw_0 (hi : IXS X i) (S : LWS B h n bs ln tx nr sz tm nd dy nl lm ll jk) (nx : NXT B X i Q) : PW B X 146 128 [some (.ref X.1), some (.ref B), some (.ref (B + 71)), some (.int (nI i))] [] h Q := by
  obtain ⟨hi0, hx1, hx2, hx3, hx4, hx5⟩ := hi
  obtain ⟨cc, mi, hl, hs⟩ := S
  simp only [u_146_128, u_146_128n, u_146_129, u_146_129n, u_146_130, u_146_131, u_146_132, u_146_133, u_146_134, u_146_134n, u_146_135, u_146_136, u_146_137, u_146_138, u_146_139, pm_O_some, pm_w_nil, pm_w_i, pm_w_l, pm_w_r, pm_w_n, pm_c_n, pm_c_i, pm_c_l, pm_c_r, pm_c_u, Nat.reduceAdd, Nat.reduceLeDiff, true_and, Option.toList_some, Option.toList_none, List.cons_append, List.nil_append, nI_1, hx1, nI_clamp (show i + 1 < 2 ^ 31 by omega), nI_p2, hx2, nI_clamp (show i + 2 < 2 ^ 31 by omega), cc.1.cf.io]
  refine c_bearing cc hl (fun V h1 cc1 kp => ?_) (fun nV => ?_)
  · have mi1 : MI B h1 (B + 71) n bs ln tx nr sz tm nd dy nl lm ll jk := mi.kp (fun q h1 h2 => kp.2.2 q h1 (by omega))
    simp only [u_146_142, u_146_142n, u_146_143, u_146_143n, u_146_144, u_146_145, u_146_146, u_146_147, u_146_148, u_146_148n, u_146_149, u_146_150, u_146_151, u_146_152, u_146_153, pm_O_some, pm_w_nil, pm_w_i, pm_w_l, pm_w_r, pm_w_n, pm_c_n, pm_c_i, pm_c_l, pm_c_r, pm_c_u, Nat.reduceAdd, Nat.reduceLeDiff, true_and, Option.toList_some, Option.toList_none, List.cons_append, List.nil_append, nI_1, hx1, nI_clamp (show i + 1 < 2 ^ 31 by omega), nI_p2, hx2, nI_clamp (show i + 2 < 2 ^ 31 by omega), mi1.io]
    refine r_bearing cc.so mi1 (fun _ h2 mi2 F => ?_) (fun nV => absurd V nV)
    simp only [u_146_156, pm_O_some, pm_w_nil, pm_w_i, pm_w_l, pm_w_r, pm_w_n, pm_c_n, pm_c_i, pm_c_l, pm_c_r, pm_c_u, Nat.reduceAdd, Nat.reduceLeDiff, true_and, Option.toList_some, Option.toList_none, List.cons_append, List.nil_append, eqs, if_true]
    exact nx _ _ _ _ _ _ _ _ _ _ _ _ _ _ (LWS.mk cc1 mi2 F (by rw [kp.1, hl]; omega) (by rw [kp.2.1]; omega))
  · simp only [u_146_142, u_146_142n, u_146_143, u_146_143n, u_146_144, u_146_145, u_146_146, u_146_147, u_146_148, u_146_148n, u_146_149, u_146_150, u_146_151, u_146_152, u_146_153, pm_O_some, pm_w_nil, pm_w_i, pm_w_l, pm_w_r, pm_w_n, pm_c_n, pm_c_i, pm_c_l, pm_c_r, pm_c_u, Nat.reduceAdd, Nat.reduceLeDiff, true_and, Option.toList_some, Option.toList_none, List.cons_append, List.nil_append, nI_1, hx1, nI_clamp (show i + 1 < 2 ^ 31 by omega), nI_p2, hx2, nI_clamp (show i + 2 < 2 ^ 31 by omega), mi.io]
    refine r_bearing cc.so mi (fun V => absurd V nV) (fun _ => ?_)
    simp only [u_146_156, pm_O_some, pm_w_nil, pm_w_i, pm_w_l, pm_w_r, pm_w_n, pm_c_n, pm_c_i, pm_c_l, pm_c_r, pm_c_u, Nat.reduceAdd, Nat.reduceLeDiff, true_and, Option.toList_some, Option.toList_none, List.cons_append, List.nil_append, eqs, if_true]
    exact nx _ _ _ _ _ _ _ _ _ _ _ _ _ _ ⟨cc, mi, hl, hs⟩
theorem lw_1 (hi : IXS X i) (S : LWS B h n bs ln tx nr sz tm nd dy nl lm ll jk) (nx : NXT B X i Q) : PW B X 146 161 [some (.ref X.1), some (.ref B), some (.ref (B + 71)), some (.int (nI i))] [] h Q := by
  obtain ⟨hi0, hx1, hx2, hx3, hx4, hx5⟩ := hi
  obtain ⟨cc, mi, hl, hs⟩ := S
  by_cases hz : X.2.2 (i + 3) = 0
  · have hzz : (0 : Int32) = 0 ∨ (0 : Int32) = 1 := Or.inl rfl
    simp only [u_146_161, u_146_161n, u_146_162, u_146_162n, u_146_163, u_146_164, u_146_165, u_146_166, u_146_167, u_146_167n, u_146_168, u_146_169, u_146_170, u_146_171, u_146_172, u_146_172n, u_146_173, u_146_174, u_146_175, u_146_176, u_146_177, u_146_180, u_146_181, u_146_184, u_146_185, pm_O_some, pm_w_nil, pm_w_i, pm_w_l, pm_w_r, pm_w_n, pm_c_n, pm_c_i, pm_c_l, pm_c_r, pm_c_u, Nat.reduceAdd, Nat.reduceLeDiff, true_and, Option.toList_some, Option.toList_none, List.cons_append, List.nil_append, nI_1, hx1, nI_clamp (show i + 1 < 2 ^ 31 by omega), nI_p2, hx2, nI_clamp (show i + 2 < 2 ^ 31 by omega), nI_p3, hx3, nI_clamp (show i + 3 < 2 ^ 31 by omega), cc.1.cf.io, hz, if_true]
    refine c_held cc hzz (fun V h1 cc1 kp => ?_) (fun nV => ?_)
    · have mi1 := mi.kp' kp
      simp only [u_146_188, u_146_188n, u_146_189, u_146_189n, u_146_190, u_146_191, u_146_192, u_146_193, u_146_194, u_146_194n, u_146_195, u_146_196, u_146_197, u_146_198, u_146_199, u_146_199n, u_146_200, u_146_201, u_146_202, u_146_203, u_146_204, u_146_207, u_146_208, u_146_211, u_146_212, pm_O_some, pm_w_nil, pm_w_i, pm_w_l, pm_w_r, pm_w_n, pm_c_n, pm_c_i, pm_c_l, pm_c_r, pm_c_u, Nat.reduceAdd, Nat.reduceLeDiff, true_and, Option.toList_some, Option.toList_none, List.cons_append, List.nil_append, nI_1, hx1, nI_clamp (show i + 1 < 2 ^ 31 by omega), nI_p2, hx2, nI_clamp (show i + 2 < 2 ^ 31 by omega), nI_p3, hx3, nI_clamp (show i + 3 < 2 ^ 31 by omega), mi1.io, hz, if_true]
      refine r_held cc.so mi1 hzz (fun _ h2 mi2 F => ?_) (fun nV => absurd V nV)
      simp only [u_146_215, pm_O_some, pm_w_nil, pm_w_i, pm_w_l, pm_w_r, pm_w_n, pm_c_n, pm_c_i, pm_c_l, pm_c_r, pm_c_u, Nat.reduceAdd, Nat.reduceLeDiff, true_and, Option.toList_some, Option.toList_none, List.cons_append, List.nil_append, eqs, if_true]
      exact nx _ _ _ _ _ _ _ _ _ _ _ _ _ _ (LWS.mk cc1 mi2 F (kp.1.trans hl) (by rw [kp.2.1]; exact hs))
    · simp only [u_146_188, u_146_188n, u_146_189, u_146_189n, u_146_190, u_146_191, u_146_192, u_146_193, u_146_194, u_146_194n, u_146_195, u_146_196, u_146_197, u_146_198, u_146_199, u_146_199n, u_146_200, u_146_201, u_146_202, u_146_203, u_146_204, u_146_207, u_146_208, u_146_211, u_146_212, pm_O_some, pm_w_nil, pm_w_i, pm_w_l, pm_w_r, pm_w_n, pm_c_n, pm_c_i, pm_c_l, pm_c_r, pm_c_u, Nat.reduceAdd, Nat.reduceLeDiff, true_and, Option.toList_some, Option.toList_none, List.cons_append, List.nil_append, nI_1, hx1, nI_clamp (show i + 1 < 2 ^ 31 by omega), nI_p2, hx2, nI_clamp (show i + 2 < 2 ^ 31 by omega), nI_p3, hx3, nI_clamp (show i + 3 < 2 ^ 31 by omega), mi.io, hz, if_true]
      refine r_held cc.so mi hzz (fun V => absurd V nV) (fun _ => ?_)
      simp only [u_146_215, pm_O_some, pm_w_nil, pm_w_i, pm_w_l, pm_w_r, pm_w_n, pm_c_n, pm_c_i, pm_c_l, pm_c_r, pm_c_u, Nat.reduceAdd, Nat.reduceLeDiff, true_and, Option.toList_some, Option.toList_none, List.cons_append, List.nil_append, eqs, if_true]
      exact nx _ _ _ _ _ _ _ _ _ _ _ _ _ _ ⟨cc, mi, hl, hs⟩
  · have hzz : (1 : Int32) = 0 ∨ (1 : Int32) = 1 := Or.inr rfl
    simp only [u_146_161, u_146_161n, u_146_162, u_146_162n, u_146_163, u_146_164, u_146_165, u_146_166, u_146_167, u_146_167n, u_146_168, u_146_169, u_146_170, u_146_171, u_146_172, u_146_172n, u_146_173, u_146_174, u_146_175, u_146_176, u_146_177, u_146_180, u_146_181, u_146_184, u_146_185, pm_O_some, pm_w_nil, pm_w_i, pm_w_l, pm_w_r, pm_w_n, pm_c_n, pm_c_i, pm_c_l, pm_c_r, pm_c_u, Nat.reduceAdd, Nat.reduceLeDiff, true_and, Option.toList_some, Option.toList_none, List.cons_append, List.nil_append, nI_1, hx1, nI_clamp (show i + 1 < 2 ^ 31 by omega), nI_p2, hx2, nI_clamp (show i + 2 < 2 ^ 31 by omega), nI_p3, hx3, nI_clamp (show i + 3 < 2 ^ 31 by omega), cc.1.cf.io, hz, if_false]
    refine c_held cc hzz (fun V h1 cc1 kp => ?_) (fun nV => ?_)
    · have mi1 := mi.kp' kp
      simp only [u_146_188, u_146_188n, u_146_189, u_146_189n, u_146_190, u_146_191, u_146_192, u_146_193, u_146_194, u_146_194n, u_146_195, u_146_196, u_146_197, u_146_198, u_146_199, u_146_199n, u_146_200, u_146_201, u_146_202, u_146_203, u_146_204, u_146_207, u_146_208, u_146_211, u_146_212, pm_O_some, pm_w_nil, pm_w_i, pm_w_l, pm_w_r, pm_w_n, pm_c_n, pm_c_i, pm_c_l, pm_c_r, pm_c_u, Nat.reduceAdd, Nat.reduceLeDiff, true_and, Option.toList_some, Option.toList_none, List.cons_append, List.nil_append, nI_1, hx1, nI_clamp (show i + 1 < 2 ^ 31 by omega), nI_p2, hx2, nI_clamp (show i + 2 < 2 ^ 31 by omega), nI_p3, hx3, nI_clamp (show i + 3 < 2 ^ 31 by omega), mi1.io, hz, if_false]
      refine r_held cc.so mi1 hzz (fun _ h2 mi2 F => ?_) (fun nV => absurd V nV)
      simp only [u_146_215, pm_O_some, pm_w_nil, pm_w_i, pm_w_l, pm_w_r, pm_w_n, pm_c_n, pm_c_i, pm_c_l, pm_c_r, pm_c_u, Nat.reduceAdd, Nat.reduceLeDiff, true_and, Option.toList_some, Option.toList_none, List.cons_append, List.nil_append, eqs, if_true]
      exact nx _ _ _ _ _ _ _ _ _ _ _ _ _ _ (LWS.mk cc1 mi2 F (kp.1.trans hl) (by rw [kp.2.1]; exact hs))
    · simp only [u_146_188, u_146_188n, u_146_189, u_146_189n, u_146_190, u_146_191, u_146_192, u_146_193, u_146_194, u_146_194n, u_146_195, u_146_196, u_146_197, u_146_198, u_146_199, u_146_199n, u_146_200, u_146_201, u_146_202, u_146_203, u_146_204, u_146_207, u_146_208, u_146_211, u_146_212, pm_O_some, pm_w_nil, pm_w_i, pm_w_l, pm_w_r, pm_w_n, pm_c_n, pm_c_i, pm_c_l, pm_c_r, pm_c_u, Nat.reduceAdd, Nat.reduceLeDiff, true_and, Option.toList_some, Option.toList_none, List.cons_append, List.nil_append, nI_1, hx1, nI_clamp (show i + 1 < 2 ^ 31 by omega), nI_p2, hx2, nI_clamp (show i + 2 < 2 ^ 31 by omega), nI_p3, hx3, nI_clamp (show i + 3 < 2 ^ 31 by omega), mi.io, hz, if_false]
      refine r_held cc.so mi hzz (fun V => absurd V nV) (fun _ => ?_)
      simp only [u_146_215, pm_O_some, pm_w_nil, pm_w_i, pm_w_l, pm_w_r, pm_w_n, pm_c_n, pm_c_i, pm_c_l, pm_c_r, pm_c_u, Nat.reduceAdd, Nat.reduceLeDiff, true_and, Option.toList_some, Option.toList_none, List.cons_append, List.nil_append, eqs, if_true]
      exact nx _ _ _ _ _ _ _ _ _ _ _ _ _ _ ⟨cc, mi, hl, hs⟩
theorem lw_2 (hi : IXS X i) (S : LWS B h n bs ln tx nr sz tm nd dy nl lm ll jk) (nx : NXT B X i Q) : PW B X 146 220 [some (.ref X.1), some (.ref B), some (.ref (B + 71)), some (.int (nI i))] [] h Q := by
  obtain ⟨hi0, hx1, hx2, hx3, hx4, hx5⟩ := hi
  obtain ⟨cc, mi, hl, hs⟩ := S
  simp only [u_146_220, u_146_220n, u_146_221, u_146_221n, u_146_222, u_146_223, u_146_224, u_146_225, u_146_226, u_146_226n, u_146_227, u_146_228, u_146_229, u_146_230, u_146_231, u_146_231n, u_146_232, u_146_233, u_146_234, u_146_235, u_146_236, u_146_236n, u_146_237, u_146_238, u_146_239, u_146_240, u_146_241, u_146_241n, u_146_242, u_146_243, u_146_244, u_146_245, u_146_246, pm_O_some, pm_w_nil, pm_w_i, pm_w_l, pm_w_r, pm_w_n, pm_c_n, pm_c_i, pm_c_l, pm_c_r, pm_c_u, Nat.reduceAdd, Nat.reduceLeDiff, true_and, Option.toList_some, Option.toList_none, List.cons_append, List.nil_append, nI_1, hx1, nI_clamp (show i + 1 < 2 ^ 31 by omega), nI_p2, hx2, nI_clamp (show i + 2 < 2 ^ 31 by omega), nI_p3, hx3, nI_clamp (show i + 3 < 2 ^ 31 by omega), nI_p4, hx4, nI_clamp (show i + 4 < 2 ^ 31 by omega), nI_p5, hx5, nI_clamp (show i + 5 < 2 ^ 31 by omega), cc.1.cf.io]
  refine c_value cc (fun V h1 cc1 kp => ?_) (fun nV => ?_)
  · have mi1 := mi.kp' kp
    simp only [u_146_249, u_146_249n, u_146_250, u_146_250n, u_146_251, u_146_252, u_146_253, u_146_254, u_146_255, u_146_255n, u_146_256, u_146_257, u_146_258, u_146_259, u_146_260, u_146_260n, u_146_261, u_146_262, u_146_263, u_146_264, u_146_265, u_146_265n, u_146_266, u_146_267, u_146_268, u_146_269, u_146_270, u_146_270n, u_146_271, u_146_272, u_146_273, u_146_274, u_146_275, pm_O_some, pm_w_nil, pm_w_i, pm_w_l, pm_w_r, pm_w_n, pm_c_n, pm_c_i, pm_c_l, pm_c_r, pm_c_u, Nat.reduceAdd, Nat.reduceLeDiff, true_and, Option.toList_some, Option.toList_none, List.cons_append, List.nil_append, nI_1, hx1, nI_clamp (show i + 1 < 2 ^ 31 by omega), nI_p2, hx2, nI_clamp (show i + 2 < 2 ^ 31 by omega), nI_p3, hx3, nI_clamp (show i + 3 < 2 ^ 31 by omega), nI_p4, hx4, nI_clamp (show i + 4 < 2 ^ 31 by omega), nI_p5, hx5, nI_clamp (show i + 5 < 2 ^ 31 by omega), mi1.io]
    refine r_value cc.so mi1 (fun _ h2 mi2 F => ?_) (fun nV => absurd V nV)
    simp only [u_146_278, pm_O_some, pm_w_nil, pm_w_i, pm_w_l, pm_w_r, pm_w_n, pm_c_n, pm_c_i, pm_c_l, pm_c_r, pm_c_u, Nat.reduceAdd, Nat.reduceLeDiff, true_and, Option.toList_some, Option.toList_none, List.cons_append, List.nil_append, eqs, if_true]
    exact nx _ _ _ _ _ _ _ _ _ _ _ _ _ _ (LWS.mk cc1 mi2 F (kp.1.trans hl) (by rw [kp.2.1]; exact hs))
  · simp only [u_146_249, u_146_249n, u_146_250, u_146_250n, u_146_251, u_146_252, u_146_253, u_146_254, u_146_255, u_146_255n, u_146_256, u_146_257, u_146_258, u_146_259, u_146_260, u_146_260n, u_146_261, u_146_262, u_146_263, u_146_264, u_146_265, u_146_265n, u_146_266, u_146_267, u_146_268, u_146_269, u_146_270, u_146_270n, u_146_271, u_146_272, u_146_273, u_146_274, u_146_275, pm_O_some, pm_w_nil, pm_w_i, pm_w_l, pm_w_r, pm_w_n, pm_c_n, pm_c_i, pm_c_l, pm_c_r, pm_c_u, Nat.reduceAdd, Nat.reduceLeDiff, true_and, Option.toList_some, Option.toList_none, List.cons_append, List.nil_append, nI_1, hx1, nI_clamp (show i + 1 < 2 ^ 31 by omega), nI_p2, hx2, nI_clamp (show i + 2 < 2 ^ 31 by omega), nI_p3, hx3, nI_clamp (show i + 3 < 2 ^ 31 by omega), nI_p4, hx4, nI_clamp (show i + 4 < 2 ^ 31 by omega), nI_p5, hx5, nI_clamp (show i + 5 < 2 ^ 31 by omega), mi.io]
    refine r_value cc.so mi (fun V => absurd V nV) (fun _ => ?_)
    simp only [u_146_278, pm_O_some, pm_w_nil, pm_w_i, pm_w_l, pm_w_r, pm_w_n, pm_c_n, pm_c_i, pm_c_l, pm_c_r, pm_c_u, Nat.reduceAdd, Nat.reduceLeDiff, true_and, Option.toList_some, Option.toList_none, List.cons_append, List.nil_append, eqs, if_true]
    exact nx _ _ _ _ _ _ _ _ _ _ _ _ _ _ ⟨cc, mi, hl, hs⟩
theorem lw_3 (hi : IXS X i) (S : LWS B h n bs ln tx nr sz tm nd dy nl lm ll jk) (nx : NXT B X i Q) : PW B X 146 283 [some (.ref X.1), some (.ref B), some (.ref (B + 71)), some (.int (nI i))] [] h Q := by
  obtain ⟨hi0, hx1, hx2, hx3, hx4, hx5⟩ := hi
  obtain ⟨cc, mi, hl, hs⟩ := S
  simp only [u_146_283, u_146_283n, u_146_284, u_146_284n, u_146_285, u_146_286, u_146_287, u_146_288, u_146_289, pm_O_some, pm_w_nil, pm_w_i, pm_w_l, pm_w_r, pm_w_n, pm_c_n, pm_c_i, pm_c_l, pm_c_r, pm_c_u, Nat.reduceAdd, Nat.reduceLeDiff, true_and, Option.toList_some, Option.toList_none, List.cons_append, List.nil_append, nI_1, hx1, nI_clamp (show i + 1 < 2 ^ 31 by omega), cc.1.cf.io]
  refine c_unit cc (fun V h1 cc1 kp => ?_) (fun nV => ?_)
  · have mi1 := mi.kp' kp
    simp only [u_146_292, u_146_292n, u_146_293, u_146_293n, u_146_294, u_146_295, u_146_296, u_146_297, u_146_298, pm_O_some, pm_w_nil, pm_w_i, pm_w_l, pm_w_r, pm_w_n, pm_c_n, pm_c_i, pm_c_l, pm_c_r, pm_c_u, Nat.reduceAdd, Nat.reduceLeDiff, true_and, Option.toList_some, Option.toList_none, List.cons_append, List.nil_append, nI_1, hx1, nI_clamp (show i + 1 < 2 ^ 31 by omega), mi1.io]
    refine r_unit cc.so mi1 (fun _ h2 mi2 F => ?_) (fun nV => absurd V nV)
    simp only [u_146_301, pm_O_some, pm_w_nil, pm_w_i, pm_w_l, pm_w_r, pm_w_n, pm_c_n, pm_c_i, pm_c_l, pm_c_r, pm_c_u, Nat.reduceAdd, Nat.reduceLeDiff, true_and, Option.toList_some, Option.toList_none, List.cons_append, List.nil_append, eqs, if_true]
    exact nx _ _ _ _ _ _ _ _ _ _ _ _ _ _ (LWS.mk cc1 mi2 F (kp.1.trans hl) (by rw [kp.2.1]; exact hs))
  · simp only [u_146_292, u_146_292n, u_146_293, u_146_293n, u_146_294, u_146_295, u_146_296, u_146_297, u_146_298, pm_O_some, pm_w_nil, pm_w_i, pm_w_l, pm_w_r, pm_w_n, pm_c_n, pm_c_i, pm_c_l, pm_c_r, pm_c_u, Nat.reduceAdd, Nat.reduceLeDiff, true_and, Option.toList_some, Option.toList_none, List.cons_append, List.nil_append, nI_1, hx1, nI_clamp (show i + 1 < 2 ^ 31 by omega), mi.io]
    refine r_unit cc.so mi (fun V => absurd V nV) (fun _ => ?_)
    simp only [u_146_301, pm_O_some, pm_w_nil, pm_w_i, pm_w_l, pm_w_r, pm_w_n, pm_c_n, pm_c_i, pm_c_l, pm_c_r, pm_c_u, Nat.reduceAdd, Nat.reduceLeDiff, true_and, Option.toList_some, Option.toList_none, List.cons_append, List.nil_append, eqs, if_true]
    exact nx _ _ _ _ _ _ _ _ _ _ _ _ _ _ ⟨cc, mi, hl, hs⟩
theorem lw_4 (hi : IXS X i) (S : LWS B h n bs ln tx nr sz tm nd dy nl lm ll jk) (nx : NXT B X i Q) : PW B X 146 306 [some (.ref X.1), some (.ref B), some (.ref (B + 71)), some (.int (nI i))] [] h Q := by
  obtain ⟨hi0, hx1, hx2, hx3, hx4, hx5⟩ := hi
  obtain ⟨cc, mi, hl, hs⟩ := S
  simp only [u_146_306, u_146_306n, u_146_307, pm_O_some, pm_w_nil, pm_w_i, pm_w_l, pm_w_r, pm_w_n, pm_c_n, pm_c_i, pm_c_l, pm_c_r, pm_c_u, Nat.reduceAdd, Nat.reduceLeDiff, true_and, Option.toList_some, Option.toList_none, List.cons_append, List.nil_append, cc.1.cf.io]
  refine c_rules cc (fun nr2 sz2 tm2 h1 e1 cc1 kp => ?_) (fun w h1 e1 cc1 kp => ?_)
  · have mi1 := mi.kp' kp
    simp only [u_146_310, u_146_310n, u_146_311, pm_O_some, pm_w_nil, pm_w_i, pm_w_l, pm_w_r, pm_w_n, pm_c_n, pm_c_i, pm_c_l, pm_c_r, pm_c_u, Nat.reduceAdd, Nat.reduceLeDiff, true_and, Option.toList_some, Option.toList_none, List.cons_append, List.nil_append, mi1.io]
    refine r_rules cc.so mi1 (fun nr3 sz3 tm3 h2 e2 mi2 F => ?_) (fun w h2 e2 mi2 F => ?_)
    · rw [e1] at e2
      cases e2
      simp only [u_146_314, pm_O_some, pm_w_nil, pm_w_i, pm_w_l, pm_w_r, pm_w_n, pm_c_n, pm_c_i, pm_c_l, pm_c_r, pm_c_u, Nat.reduceAdd, Nat.reduceLeDiff, true_and, Option.toList_some, Option.toList_none, List.cons_append, List.nil_append, eqs, if_true]
      exact nx _ _ _ _ _ _ _ _ _ _ _ _ _ _ (LWS.mk cc1 mi2 F (kp.1.trans hl) (by rw [kp.2.1]; exact hs))
    · rw [e1] at e2
      cases e2
  · have mi1 := mi.kp' kp
    simp only [u_146_310, u_146_310n, u_146_311, pm_O_some, pm_w_nil, pm_w_i, pm_w_l, pm_w_r, pm_w_n, pm_c_n, pm_c_i, pm_c_l, pm_c_r, pm_c_u, Nat.reduceAdd, Nat.reduceLeDiff, true_and, Option.toList_some, Option.toList_none, List.cons_append, List.nil_append, mi1.io]
    refine r_rules cc.so mi1 (fun nr3 sz3 tm3 h2 e2 mi2 F => ?_) (fun w h2 e2 mi2 F => ?_)
    · rw [e1] at e2
      cases e2
    · rw [e1] at e2
      cases e2
      simp only [u_146_314, pm_O_some, pm_w_nil, pm_w_i, pm_w_l, pm_w_r, pm_w_n, pm_c_n, pm_c_i, pm_c_l, pm_c_r, pm_c_u, Nat.reduceAdd, Nat.reduceLeDiff, true_and, Option.toList_some, Option.toList_none, List.cons_append, List.nil_append, eqs, if_true]
      exact nx _ _ _ _ _ _ _ _ _ _ _ _ _ _ (LWS.mk cc1 mi2 F (kp.1.trans hl) (by rw [kp.2.1]; exact hs))
theorem lw_5 (hi : IXS X i) (S : LWS B h n bs ln tx nr sz tm nd dy nl lm ll jk) (nx : NXT B X i Q) : PW B X 146 319 [some (.ref X.1), some (.ref B), some (.ref (B + 71)), some (.int (nI i))] [] h Q := by
  obtain ⟨hi0, hx1, hx2, hx3, hx4, hx5⟩ := hi
  obtain ⟨cc, mi, hl, hs⟩ := S
  simp only [u_146_319, u_146_319n, u_146_320, u_146_320n, u_146_321, u_146_322, u_146_323, u_146_324, u_146_325, u_146_325n, u_146_326, u_146_327, u_146_328, u_146_329, u_146_330, u_146_330n, u_146_331, u_146_332, u_146_333, u_146_334, u_146_335, u_146_335n, u_146_336, u_146_337, u_146_338, u_146_339, u_146_340, pm_O_some, pm_w_nil, pm_w_i, pm_w_l, pm_w_r, pm_w_n, pm_c_n, pm_c_i, pm_c_l, pm_c_r, pm_c_u, Nat.reduceAdd, Nat.reduceLeDiff, true_and, Option.toList_some, Option.toList_none, List.cons_append, List.nil_append, nI_1, hx1, nI_clamp (show i + 1 < 2 ^ 31 by omega), nI_p2, hx2, nI_clamp (show i + 2 < 2 ^ 31 by omega), nI_p3, hx3, nI_clamp (show i + 3 < 2 ^ 31 by omega), nI_p4, hx4, nI_clamp (show i + 4 < 2 ^ 31 by omega), cc.1.cf.io]
  refine c_sum cc (fun V h1 cc1 kp => ?_) (fun nV => ?_)
  · have mi1 := mi.kp' kp
    simp only [u_146_343, u_146_343n, u_146_344, u_146_344n, u_146_345, u_146_346, u_146_347, u_146_348, u_146_349, u_146_349n, u_146_350, u_146_351, u_146_352, u_146_353, u_146_354, u_146_354n, u_146_355, u_146_356, u_146_357, u_146_358, u_146_359, u_146_359n, u_146_360, u_146_361, u_146_362, u_146_363, u_146_364, pm_O_some, pm_w_nil, pm_w_i, pm_w_l, pm_w_r, pm_w_n, pm_c_n, pm_c_i, pm_c_l, pm_c_r, pm_c_u, Nat.reduceAdd, Nat.reduceLeDiff, true_and, Option.toList_some, Option.toList_none, List.cons_append, List.nil_append, nI_1, hx1, nI_clamp (show i + 1 < 2 ^ 31 by omega), nI_p2, hx2, nI_clamp (show i + 2 < 2 ^ 31 by omega), nI_p3, hx3, nI_clamp (show i + 3 < 2 ^ 31 by omega), nI_p4, hx4, nI_clamp (show i + 4 < 2 ^ 31 by omega), mi1.io]
    refine r_sum cc.so mi1 (fun _ h2 mi2 F => ?_) (fun nV => absurd V nV)
    simp only [u_146_367, u_146_368, pm_O_some, pm_w_nil, pm_w_i, pm_w_l, pm_w_r, pm_w_n, pm_c_n, pm_c_i, pm_c_l, pm_c_r, pm_c_u, Nat.reduceAdd, Nat.reduceLeDiff, true_and, Option.toList_some, Option.toList_none, List.cons_append, List.nil_append, lc_eq, eqs, if_true]
    exact nx _ _ _ _ _ _ _ _ _ _ _ _ _ _ (LWS.mk cc1 mi2 F (kp.1.trans hl) (by rw [kp.2.1]; exact hs))
  · simp only [u_146_343, u_146_343n, u_146_344, u_146_344n, u_146_345, u_146_346, u_146_347, u_146_348, u_146_349, u_146_349n, u_146_350, u_146_351, u_146_352, u_146_353, u_146_354, u_146_354n, u_146_355, u_146_356, u_146_357, u_146_358, u_146_359, u_146_359n, u_146_360, u_146_361, u_146_362, u_146_363, u_146_364, pm_O_some, pm_w_nil, pm_w_i, pm_w_l, pm_w_r, pm_w_n, pm_c_n, pm_c_i, pm_c_l, pm_c_r, pm_c_u, Nat.reduceAdd, Nat.reduceLeDiff, true_and, Option.toList_some, Option.toList_none, List.cons_append, List.nil_append, nI_1, hx1, nI_clamp (show i + 1 < 2 ^ 31 by omega), nI_p2, hx2, nI_clamp (show i + 2 < 2 ^ 31 by omega), nI_p3, hx3, nI_clamp (show i + 3 < 2 ^ 31 by omega), nI_p4, hx4, nI_clamp (show i + 4 < 2 ^ 31 by omega), mi.io]
    refine r_sum cc.so mi (fun V => absurd V nV) (fun _ => ?_)
    simp only [u_146_367, u_146_368, pm_O_some, pm_w_nil, pm_w_i, pm_w_l, pm_w_r, pm_w_n, pm_c_n, pm_c_i, pm_c_l, pm_c_r, pm_c_u, Nat.reduceAdd, Nat.reduceLeDiff, true_and, Option.toList_some, Option.toList_none, List.cons_append, List.nil_append, lc_eq, eqs, if_true]
    exact nx _ _ _ _ _ _ _ _ _ _ _ _ _ _ ⟨cc, mi, hl, hs⟩
theorem lw_6 (hi : IXS X i) (S : LWS B h n bs ln tx nr sz tm nd dy nl lm ll jk) (nx : NXT B X i Q) : PW B X 146 373 [some (.ref X.1), some (.ref B), some (.ref (B + 71)), some (.int (nI i))] [] h Q := by
  obtain ⟨hi0, hx1, hx2, hx3, hx4, hx5⟩ := hi
  obtain ⟨cc, mi, hl, hs⟩ := S
  simp only [u_146_373, u_146_373n, u_146_374, u_146_374n, u_146_375, u_146_376, u_146_377, u_146_378, u_146_379, u_146_379n, u_146_380, u_146_381, u_146_382, u_146_383, u_146_384, u_146_384n, u_146_385, u_146_386, u_146_387, u_146_388, u_146_389, pm_O_some, pm_w_nil, pm_w_i, pm_w_l, pm_w_r, pm_w_n, pm_c_n, pm_c_i, pm_c_l, pm_c_r, pm_c_u, Nat.reduceAdd, Nat.reduceLeDiff, true_and, Option.toList_some, Option.toList_none, List.cons_append, List.nil_append, nI_1, hx1, nI_clamp (show i + 1 < 2 ^ 31 by omega), nI_p2, hx2, nI_clamp (show i + 2 < 2 ^ 31 by omega), nI_p3, hx3, nI_clamp (show i + 3 < 2 ^ 31 by omega), cc.1.cf.io]
  refine c_caseOf cc (fun V h1 cc1 kp => ?_) (fun nV => ?_)
  · have mi1 := mi.kp' kp
    simp only [u_146_392, u_146_392n, u_146_393, u_146_393n, u_146_394, u_146_395, u_146_396, u_146_397, u_146_398, u_146_398n, u_146_399, u_146_400, u_146_401, u_146_402, u_146_403, u_146_403n, u_146_404, u_146_405, u_146_406, u_146_407, u_146_408, pm_O_some, pm_w_nil, pm_w_i, pm_w_l, pm_w_r, pm_w_n, pm_c_n, pm_c_i, pm_c_l, pm_c_r, pm_c_u, Nat.reduceAdd, Nat.reduceLeDiff, true_and, Option.toList_some, Option.toList_none, List.cons_append, List.nil_append, nI_1, hx1, nI_clamp (show i + 1 < 2 ^ 31 by omega), nI_p2, hx2, nI_clamp (show i + 2 < 2 ^ 31 by omega), nI_p3, hx3, nI_clamp (show i + 3 < 2 ^ 31 by omega), mi1.io]
    refine r_caseOf cc.so mi1 (fun _ h2 mi2 F => ?_) (fun nV => absurd V nV)
    simp only [u_146_411, pm_O_some, pm_w_nil, pm_w_i, pm_w_l, pm_w_r, pm_w_n, pm_c_n, pm_c_i, pm_c_l, pm_c_r, pm_c_u, Nat.reduceAdd, Nat.reduceLeDiff, true_and, Option.toList_some, Option.toList_none, List.cons_append, List.nil_append, eqs, if_true]
    exact nx _ _ _ _ _ _ _ _ _ _ _ _ _ _ (LWS.mk cc1 mi2 F (kp.1.trans hl) (by rw [kp.2.1]; exact hs))
  · simp only [u_146_392, u_146_392n, u_146_393, u_146_393n, u_146_394, u_146_395, u_146_396, u_146_397, u_146_398, u_146_398n, u_146_399, u_146_400, u_146_401, u_146_402, u_146_403, u_146_403n, u_146_404, u_146_405, u_146_406, u_146_407, u_146_408, pm_O_some, pm_w_nil, pm_w_i, pm_w_l, pm_w_r, pm_w_n, pm_c_n, pm_c_i, pm_c_l, pm_c_r, pm_c_u, Nat.reduceAdd, Nat.reduceLeDiff, true_and, Option.toList_some, Option.toList_none, List.cons_append, List.nil_append, nI_1, hx1, nI_clamp (show i + 1 < 2 ^ 31 by omega), nI_p2, hx2, nI_clamp (show i + 2 < 2 ^ 31 by omega), nI_p3, hx3, nI_clamp (show i + 3 < 2 ^ 31 by omega), mi.io]
    refine r_caseOf cc.so mi (fun V => absurd V nV) (fun _ => ?_)
    simp only [u_146_411, pm_O_some, pm_w_nil, pm_w_i, pm_w_l, pm_w_r, pm_w_n, pm_c_n, pm_c_i, pm_c_l, pm_c_r, pm_c_u, Nat.reduceAdd, Nat.reduceLeDiff, true_and, Option.toList_some, Option.toList_none, List.cons_append, List.nil_append, eqs, if_true]
    exact nx _ _ _ _ _ _ _ _ _ _ _ _ _ _ ⟨cc, mi, hl, hs⟩
theorem lw_7 (hi : IXS X i) (S : LWS B h n bs ln tx nr sz tm nd dy nl lm ll jk) (nx : NXT B X i Q) : PW B X 146 416 [some (.ref X.1), some (.ref B), some (.ref (B + 71)), some (.int (nI i))] [] h Q := by
  obtain ⟨hi0, hx1, hx2, hx3, hx4, hx5⟩ := hi
  obtain ⟨cc, mi, hl, hs⟩ := S
  simp only [u_146_416, u_146_416n, u_146_417, pm_O_some, pm_w_nil, pm_w_i, pm_w_l, pm_w_r, pm_w_n, pm_c_n, pm_c_i, pm_c_l, pm_c_r, pm_c_u, Nat.reduceAdd, Nat.reduceLeDiff, true_and, Option.toList_some, Option.toList_none, List.cons_append, List.nil_append, cc.1.cf.io]
  refine c_locked cc (fun j k h1 r1 r2 cc1 kp => ?_)
  have mi1 := mi.kp' kp
  simp only [u_146_420, u_146_420n, u_146_421, pm_O_some, pm_w_nil, pm_w_i, pm_w_l, pm_w_r, pm_w_n, pm_c_n, pm_c_i, pm_c_l, pm_c_r, pm_c_u, Nat.reduceAdd, Nat.reduceLeDiff, true_and, Option.toList_some, Option.toList_none, List.cons_append, List.nil_append, mi1.io]
  refine r_locked cc.so mi1 (fun j2 k2 h2 s1 s2 mi2 F => ?_)
  rw [RK_uniq s1 r1, RK_uniq s2 r2]
  simp only [u_146_424, pm_O_some, pm_w_nil, pm_w_i, pm_w_l, pm_w_r, pm_w_n, pm_c_n, pm_c_i, pm_c_l, pm_c_r, pm_c_u, Nat.reduceAdd, Nat.reduceLeDiff, true_and, Option.toList_some, Option.toList_none, List.cons_append, List.nil_append, eqs, if_true]
  exact nx _ _ _ _ _ _ _ _ _ _ _ _ _ _ (LWS.mk cc1 mi2 F (kp.1.trans hl) (by rw [kp.2.1]; exact hs))
theorem lw_8 (hi : IXS X i) (S : LWS B h n bs ln tx nr sz tm nd dy nl lm ll jk) (nx : NXT B X i Q) : PW B X 146 429 [some (.ref X.1), some (.ref B), some (.ref (B + 71)), some (.int (nI i))] [] h Q := by
  obtain ⟨hi0, hx1, hx2, hx3, hx4, hx5⟩ := hi
  obtain ⟨cc, mi, hl, hs⟩ := S
  by_cases hz : X.2.2 (i + 1) = 0
  · simp only [u_146_429, u_146_429n, u_146_430, u_146_430n, u_146_431, u_146_432, u_146_433, u_146_434, u_146_435, u_146_438, u_146_439, u_146_442, u_146_443, pm_O_some, pm_w_nil, pm_w_i, pm_w_l, pm_w_r, pm_w_n, pm_c_n, pm_c_i, pm_c_l, pm_c_r, pm_c_u, Nat.reduceAdd, Nat.reduceLeDiff, true_and, Option.toList_some, Option.toList_none, List.cons_append, List.nil_append, nI_1, hx1, nI_clamp (show i + 1 < 2 ^ 31 by omega), cc.1.cf.io, hz, if_true]
    refine c_rank cc (fun k h1 r1 cc1 kp => ?_)
    have mi1 := mi.kp' kp
    simp only [u_146_446, u_146_446n, u_146_447, u_146_447n, u_146_448, u_146_449, u_146_450, u_146_451, u_146_452, u_146_455, u_146_456, u_146_459, u_146_460, pm_O_some, pm_w_nil, pm_w_i, pm_w_l, pm_w_r, pm_w_n, pm_c_n, pm_c_i, pm_c_l, pm_c_r, pm_c_u, Nat.reduceAdd, Nat.reduceLeDiff, true_and, Option.toList_some, Option.toList_none, List.cons_append, List.nil_append, nI_1, hx1, nI_clamp (show i + 1 < 2 ^ 31 by omega), mi1.io, hz, if_true]
    refine r_rank cc.so mi1 (fun k2 h2 s1 mi2 F => ?_)
    rw [RK_uniq s1 r1]
    simp only [u_146_463, pm_O_some, pm_w_nil, pm_w_i, pm_w_l, pm_w_r, pm_w_n, pm_c_n, pm_c_i, pm_c_l, pm_c_r, pm_c_u, Nat.reduceAdd, Nat.reduceLeDiff, true_and, Option.toList_some, Option.toList_none, List.cons_append, List.nil_append, eqs, if_true]
    exact nx _ _ _ _ _ _ _ _ _ _ _ _ _ _ (LWS.mk cc1 mi2 F (kp.1.trans hl) (by rw [kp.2.1]; exact hs))
  · simp only [u_146_429, u_146_429n, u_146_430, u_146_430n, u_146_431, u_146_432, u_146_433, u_146_434, u_146_435, u_146_438, u_146_439, u_146_442, u_146_443, pm_O_some, pm_w_nil, pm_w_i, pm_w_l, pm_w_r, pm_w_n, pm_c_n, pm_c_i, pm_c_l, pm_c_r, pm_c_u, Nat.reduceAdd, Nat.reduceLeDiff, true_and, Option.toList_some, Option.toList_none, List.cons_append, List.nil_append, nI_1, hx1, nI_clamp (show i + 1 < 2 ^ 31 by omega), cc.1.cf.io, hz, if_false]
    refine c_rank cc (fun k h1 r1 cc1 kp => ?_)
    have mi1 := mi.kp' kp
    simp only [u_146_446, u_146_446n, u_146_447, u_146_447n, u_146_448, u_146_449, u_146_450, u_146_451, u_146_452, u_146_455, u_146_456, u_146_459, u_146_460, pm_O_some, pm_w_nil, pm_w_i, pm_w_l, pm_w_r, pm_w_n, pm_c_n, pm_c_i, pm_c_l, pm_c_r, pm_c_u, Nat.reduceAdd, Nat.reduceLeDiff, true_and, Option.toList_some, Option.toList_none, List.cons_append, List.nil_append, nI_1, hx1, nI_clamp (show i + 1 < 2 ^ 31 by omega), mi1.io, hz, if_false]
    refine r_rank cc.so mi1 (fun k2 h2 s1 mi2 F => ?_)
    rw [RK_uniq s1 r1]
    simp only [u_146_463, pm_O_some, pm_w_nil, pm_w_i, pm_w_l, pm_w_r, pm_w_n, pm_c_n, pm_c_i, pm_c_l, pm_c_r, pm_c_u, Nat.reduceAdd, Nat.reduceLeDiff, true_and, Option.toList_some, Option.toList_none, List.cons_append, List.nil_append, eqs, if_true]
    exact nx _ _ _ _ _ _ _ _ _ _ _ _ _ _ (LWS.mk cc1 mi2 F (kp.1.trans hl) (by rw [kp.2.1]; exact hs))
theorem lw_9 (hi : IXS X i) (S : LWS B h n bs ln tx nr sz tm nd dy nl lm ll jk) (nx : NXT B X i Q) : PW B X 146 468 [some (.ref X.1), some (.ref B), some (.ref (B + 71)), some (.int (nI i))] [] h Q := by
  obtain ⟨hi0, hx1, hx2, hx3, hx4, hx5⟩ := hi
  obtain ⟨cc, mi, hl, hs⟩ := S
  simp only [u_146_468, u_146_468n, u_146_469, u_146_469n, u_146_470, u_146_471, u_146_472, u_146_473, u_146_474, u_146_474n, u_146_475, u_146_476, u_146_477, u_146_478, u_146_479, pm_O_some, pm_w_nil, pm_w_i, pm_w_l, pm_w_r, pm_w_n, pm_c_n, pm_c_i, pm_c_l, pm_c_r, pm_c_u, Nat.reduceAdd, Nat.reduceLeDiff, true_and, Option.toList_some, Option.toList_none, List.cons_append, List.nil_append, nI_1, hx1, nI_clamp (show i + 1 < 2 ^ 31 by omega), nI_p2, hx2, nI_clamp (show i + 2 < 2 ^ 31 by omega), cc.1.cf.io]
  refine c_dir cc (fun V => ?_) (fun nV => ?_)
  · simp only [u_146_482, u_146_482n, u_146_483, u_146_483n, u_146_484, u_146_485, u_146_486, u_146_487, u_146_488, u_146_488n, u_146_489, u_146_490, u_146_491, u_146_492, u_146_493, pm_O_some, pm_w_nil, pm_w_i, pm_w_l, pm_w_r, pm_w_n, pm_c_n, pm_c_i, pm_c_l, pm_c_r, pm_c_u, Nat.reduceAdd, Nat.reduceLeDiff, true_and, Option.toList_some, Option.toList_none, List.cons_append, List.nil_append, nI_1, hx1, nI_clamp (show i + 1 < 2 ^ 31 by omega), nI_p2, hx2, nI_clamp (show i + 2 < 2 ^ 31 by omega), mi.io]
    refine r_dir cc.so mi (fun _ => ?_) (fun nV => absurd V nV)
    simp only [u_146_496, pm_O_some, pm_w_nil, pm_w_i, pm_w_l, pm_w_r, pm_w_n, pm_c_n, pm_c_i, pm_c_l, pm_c_r, pm_c_u, Nat.reduceAdd, Nat.reduceLeDiff, true_and, Option.toList_some, Option.toList_none, List.cons_append, List.nil_append, eqs, if_true]
    exact nx _ _ _ _ _ _ _ _ _ _ _ _ _ _ ⟨cc, mi, hl, hs⟩
  · simp only [u_146_482, u_146_482n, u_146_483, u_146_483n, u_146_484, u_146_485, u_146_486, u_146_487, u_146_488, u_146_488n, u_146_489, u_146_490, u_146_491, u_146_492, u_146_493, pm_O_some, pm_w_nil, pm_w_i, pm_w_l, pm_w_r, pm_w_n, pm_c_n, pm_c_i, pm_c_l, pm_c_r, pm_c_u, Nat.reduceAdd, Nat.reduceLeDiff, true_and, Option.toList_some, Option.toList_none, List.cons_append, List.nil_append, nI_1, hx1, nI_clamp (show i + 1 < 2 ^ 31 by omega), nI_p2, hx2, nI_clamp (show i + 2 < 2 ^ 31 by omega), mi.io]
    refine r_dir cc.so mi (fun V => absurd V nV) (fun _ => ?_)
    simp only [u_146_496, pm_O_some, pm_w_nil, pm_w_i, pm_w_l, pm_w_r, pm_w_n, pm_c_n, pm_c_i, pm_c_l, pm_c_r, pm_c_u, Nat.reduceAdd, Nat.reduceLeDiff, true_and, Option.toList_some, Option.toList_none, List.cons_append, List.nil_append, eqs, if_true]
    exact nx _ _ _ _ _ _ _ _ _ _ _ _ _ _ ⟨cc, mi, hl, hs⟩
theorem lw_10 (hi : IXS X i) (S : LWS B h n bs ln tx nr sz tm nd dy nl lm ll jk) (nx : NXT B X i Q) : PW B X 146 501 [some (.ref X.1), some (.ref B), some (.ref (B + 71)), some (.int (nI i))] [] h Q := by
  obtain ⟨hi0, hx1, hx2, hx3, hx4, hx5⟩ := hi
  obtain ⟨cc, mi, hl, hs⟩ := S
  simp only [u_146_501, u_146_501n, u_146_502, u_146_502n, u_146_503, u_146_504, u_146_505, u_146_506, u_146_507, u_146_507n, u_146_508, u_146_509, u_146_510, u_146_511, u_146_512, u_146_512n, u_146_513, u_146_514, u_146_515, u_146_516, u_146_517, u_146_517n, u_146_518, u_146_519, u_146_520, u_146_521, u_146_522, pm_O_some, pm_w_nil, pm_w_i, pm_w_l, pm_w_r, pm_w_n, pm_c_n, pm_c_i, pm_c_l, pm_c_r, pm_c_u, Nat.reduceAdd, Nat.reduceLeDiff, true_and, Option.toList_some, Option.toList_none, List.cons_append, List.nil_append, nI_1, hx1, nI_clamp (show i + 1 < 2 ^ 31 by omega), nI_p2, hx2, nI_clamp (show i + 2 < 2 ^ 31 by omega), nI_p3, hx3, nI_clamp (show i + 3 < 2 ^ 31 by omega), nI_p4, hx4, nI_clamp (show i + 4 < 2 ^ 31 by omega), cc.1.cf.io]
  refine c_joint cc (fun V h1 cc1 kp => ?_) (fun nV => ?_)
  · have mi1 := mi.kp' kp
    simp only [u_146_525, u_146_525n, u_146_526, u_146_526n, u_146_527, u_146_528, u_146_529, u_146_530, u_146_531, u_146_531n, u_146_532, u_146_533, u_146_534, u_146_535, u_146_536, u_146_536n, u_146_537, u_146_538, u_146_539, u_146_540, u_146_541, u_146_541n, u_146_542, u_146_543, u_146_544, u_146_545, u_146_546, pm_O_some, pm_w_nil, pm_w_i, pm_w_l, pm_w_r, pm_w_n, pm_c_n, pm_c_i, pm_c_l, pm_c_r, pm_c_u, Nat.reduceAdd, Nat.reduceLeDiff, true_and, Option.toList_some, Option.toList_none, List.cons_append, List.nil_append, nI_1, hx1, nI_clamp (show i + 1 < 2 ^ 31 by omega), nI_p2, hx2, nI_clamp (show i + 2 < 2 ^ 31 by omega), nI_p3, hx3, nI_clamp (show i + 3 < 2 ^ 31 by omega), nI_p4, hx4, nI_clamp (show i + 4 < 2 ^ 31 by omega), mi1.io]
    refine r_joint cc.so mi1 (fun _ h2 mi2 F => ?_) (fun nV => absurd V nV)
    simp only [u_146_549, pm_O_some, pm_w_nil, pm_w_i, pm_w_l, pm_w_r, pm_w_n, pm_c_n, pm_c_i, pm_c_l, pm_c_r, pm_c_u, Nat.reduceAdd, Nat.reduceLeDiff, true_and, Option.toList_some, Option.toList_none, List.cons_append, List.nil_append, eqs, if_true]
    exact nx _ _ _ _ _ _ _ _ _ _ _ _ _ _ (LWS.mk cc1 mi2 F (kp.1.trans hl) (by rw [kp.2.1]; exact hs))
  · simp only [u_146_525, u_146_525n, u_146_526, u_146_526n, u_146_527, u_146_528, u_146_529, u_146_530, u_146_531, u_146_531n, u_146_532, u_146_533, u_146_534, u_146_535, u_146_536, u_146_536n, u_146_537, u_146_538, u_146_539, u_146_540, u_146_541, u_146_541n, u_146_542, u_146_543, u_146_544, u_146_545, u_146_546, pm_O_some, pm_w_nil, pm_w_i, pm_w_l, pm_w_r, pm_w_n, pm_c_n, pm_c_i, pm_c_l, pm_c_r, pm_c_u, Nat.reduceAdd, Nat.reduceLeDiff, true_and, Option.toList_some, Option.toList_none, List.cons_append, List.nil_append, nI_1, hx1, nI_clamp (show i + 1 < 2 ^ 31 by omega), nI_p2, hx2, nI_clamp (show i + 2 < 2 ^ 31 by omega), nI_p3, hx3, nI_clamp (show i + 3 < 2 ^ 31 by omega), nI_p4, hx4, nI_clamp (show i + 4 < 2 ^ 31 by omega), mi.io]
    refine r_joint cc.so mi (fun V => absurd V nV) (fun _ => ?_)
    simp only [u_146_549, pm_O_some, pm_w_nil, pm_w_i, pm_w_l, pm_w_r, pm_w_n, pm_c_n, pm_c_i, pm_c_l, pm_c_r, pm_c_u, Nat.reduceAdd, Nat.reduceLeDiff, true_and, Option.toList_some, Option.toList_none, List.cons_append, List.nil_append, eqs, if_true]
    exact nx _ _ _ _ _ _ _ _ _ _ _ _ _ _ ⟨cc, mi, hl, hs⟩
theorem lw_11 (hi : IXS X i) (S : LWS B h n bs ln tx nr sz tm nd dy nl lm ll jk) (nx : NXT B X i Q) : PW B X 146 554 [some (.ref X.1), some (.ref B), some (.ref (B + 71)), some (.int (nI i))] [] h Q := by
  obtain ⟨hi0, hx1, hx2, hx3, hx4, hx5⟩ := hi
  obtain ⟨cc, mi, hl, hs⟩ := S
  simp only [u_146_554, u_146_554n, u_146_555, u_146_555n, u_146_556, u_146_557, u_146_558, u_146_559, u_146_560, u_146_560n, u_146_561, u_146_562, u_146_563, u_146_564, u_146_565, u_146_565n, u_146_566, u_146_567, u_146_568, u_146_569, u_146_570, pm_O_some, pm_w_nil, pm_w_i, pm_w_l, pm_w_r, pm_w_n, pm_c_n, pm_c_i, pm_c_l, pm_c_r, pm_c_u, Nat.reduceAdd, Nat.reduceLeDiff, true_and, Option.toList_some, Option.toList_none, List.cons_append, List.nil_append, nI_1, hx1, nI_clamp (show i + 1 < 2 ^ 31 by omega), nI_p2, hx2, nI_clamp (show i + 2 < 2 ^ 31 by omega), nI_p3, hx3, nI_clamp (show i + 3 < 2 ^ 31 by omega), cc.1.cf.io]
  refine c_gap cc (fun V h1 cc1 kp => ?_) (fun nV => ?_)
  · have mi1 := mi.kp' kp
    simp only [u_146_573, u_146_573n, u_146_574, u_146_574n, u_146_575, u_146_576, u_146_577, u_146_578, u_146_579, u_146_579n, u_146_580, u_146_581, u_146_582, u_146_583, u_146_584, u_146_584n, u_146_585, u_146_586, u_146_587, u_146_588, u_146_589, pm_O_some, pm_w_nil, pm_w_i, pm_w_l, pm_w_r, pm_w_n, pm_c_n, pm_c_i, pm_c_l, pm_c_r, pm_c_u, Nat.reduceAdd, Nat.reduceLeDiff, true_and, Option.toList_some, Option.toList_none, List.cons_append, List.nil_append, nI_1, hx1, nI_clamp (show i + 1 < 2 ^ 31 by omega), nI_p2, hx2, nI_clamp (show i + 2 < 2 ^ 31 by omega), nI_p3, hx3, nI_clamp (show i + 3 < 2 ^ 31 by omega), mi1.io]
    refine r_gap cc.so mi1 (fun _ => ?_) (fun nV => absurd V nV)
    simp only [u_146_592, u_146_593, pm_O_some, pm_w_nil, pm_w_i, pm_w_l, pm_w_r, pm_w_n, pm_c_n, pm_c_i, pm_c_l, pm_c_r, pm_c_u, Nat.reduceAdd, Nat.reduceLeDiff, true_and, Option.toList_some, Option.toList_none, List.cons_append, List.nil_append, lc_eq, eqs, if_true]
    exact nx _ _ _ _ _ _ _ _ _ _ _ _ _ _ ⟨cc1, mi1, kp.1.trans hl, by rw [kp.2.1]; exact hs⟩
  · simp only [u_146_573, u_146_573n, u_146_574, u_146_574n, u_146_575, u_146_576, u_146_577, u_146_578, u_146_579, u_146_579n, u_146_580, u_146_581, u_146_582, u_146_583, u_146_584, u_146_584n, u_146_585, u_146_586, u_146_587, u_146_588, u_146_589, pm_O_some, pm_w_nil, pm_w_i, pm_w_l, pm_w_r, pm_w_n, pm_c_n, pm_c_i, pm_c_l, pm_c_r, pm_c_u, Nat.reduceAdd, Nat.reduceLeDiff, true_and, Option.toList_some, Option.toList_none, List.cons_append, List.nil_append, nI_1, hx1, nI_clamp (show i + 1 < 2 ^ 31 by omega), nI_p2, hx2, nI_clamp (show i + 2 < 2 ^ 31 by omega), nI_p3, hx3, nI_clamp (show i + 3 < 2 ^ 31 by omega), mi.io]
    refine r_gap cc.so mi (fun V => absurd V nV) (fun _ => ?_)
    simp only [u_146_592, u_146_593, pm_O_some, pm_w_nil, pm_w_i, pm_w_l, pm_w_r, pm_w_n, pm_c_n, pm_c_i, pm_c_l, pm_c_r, pm_c_u, Nat.reduceAdd, Nat.reduceLeDiff, true_and, Option.toList_some, Option.toList_none, List.cons_append, List.nil_append, lc_eq, eqs, if_true]
    exact nx _ _ _ _ _ _ _ _ _ _ _ _ _ _ ⟨cc, mi, hl, hs⟩
theorem lw_12 (hi : IXS X i) (S : LWS B h n bs ln tx nr sz tm nd dy nl lm ll jk) (nx : NXT B X i Q) : PW B X 146 598 [some (.ref X.1), some (.ref B), some (.ref (B + 71)), some (.int (nI i))] [] h Q := by
  obtain ⟨hi0, hx1, hx2, hx3, hx4, hx5⟩ := hi
  obtain ⟨cc, mi, hl, hs⟩ := S
  simp only [u_146_598, u_146_598n, u_146_599, u_146_599n, u_146_600, u_146_601, u_146_602, u_146_603, u_146_604, pm_O_some, pm_w_nil, pm_w_i, pm_w_l, pm_w_r, pm_w_n, pm_c_n, pm_c_i, pm_c_l, pm_c_r, pm_c_u, Nat.reduceAdd, Nat.reduceLeDiff, true_and, Option.toList_some, Option.toList_none, List.cons_append, List.nil_append, nI_1, hx1, nI_clamp (show i + 1 < 2 ^ 31 by omega), cc.1.cf.io]
  refine c_day cc (fun V h1 cc1 kp => ?_) (fun nV => ?_)
  · have mi1 := mi.kp' kp
    simp only [u_146_607, u_146_607n, u_146_608, u_146_608n, u_146_609, u_146_610, u_146_611, u_146_612, u_146_613, pm_O_some, pm_w_nil, pm_w_i, pm_w_l, pm_w_r, pm_w_n, pm_c_n, pm_c_i, pm_c_l, pm_c_r, pm_c_u, Nat.reduceAdd, Nat.reduceLeDiff, true_and, Option.toList_some, Option.toList_none, List.cons_append, List.nil_append, nI_1, hx1, nI_clamp (show i + 1 < 2 ^ 31 by omega), mi1.io]
    refine r_day cc.so mi1 (fun _ h2 mi2 F => ?_) (fun nV => absurd V nV)
    simp only [u_146_616, pm_O_some, pm_w_nil, pm_w_i, pm_w_l, pm_w_r, pm_w_n, pm_c_n, pm_c_i, pm_c_l, pm_c_r, pm_c_u, Nat.reduceAdd, Nat.reduceLeDiff, true_and, Option.toList_some, Option.toList_none, List.cons_append, List.nil_append, eqs, if_true]
    exact nx _ _ _ _ _ _ _ _ _ _ _ _ _ _ (LWS.mk cc1 mi2 F (kp.1.trans hl) (by rw [kp.2.1]; exact hs))
  · simp only [u_146_607, u_146_607n, u_146_608, u_146_608n, u_146_609, u_146_610, u_146_611, u_146_612, u_146_613, pm_O_some, pm_w_nil, pm_w_i, pm_w_l, pm_w_r, pm_w_n, pm_c_n, pm_c_i, pm_c_l, pm_c_r, pm_c_u, Nat.reduceAdd, Nat.reduceLeDiff, true_and, Option.toList_some, Option.toList_none, List.cons_append, List.nil_append, nI_1, hx1, nI_clamp (show i + 1 < 2 ^ 31 by omega), mi.io]
    refine r_day cc.so mi (fun V => absurd V nV) (fun _ => ?_)
    simp only [u_146_616, pm_O_some, pm_w_nil, pm_w_i, pm_w_l, pm_w_r, pm_w_n, pm_c_n, pm_c_i, pm_c_l, pm_c_r, pm_c_u, Nat.reduceAdd, Nat.reduceLeDiff, true_and, Option.toList_some, Option.toList_none, List.cons_append, List.nil_append, eqs, if_true]
    exact nx _ _ _ _ _ _ _ _ _ _ _ _ _ _ ⟨cc, mi, hl, hs⟩
theorem lw_13 (hi : IXS X i) (S : LWS B h n bs ln tx nr sz tm nd dy nl lm ll jk) (nx : NXT B X i Q) : PW B X 146 621 [some (.ref X.1), some (.ref B), some (.ref (B + 71)), some (.int (nI i))] [] h Q := by
  obtain ⟨hi0, hx1, hx2, hx3, hx4, hx5⟩ := hi
  obtain ⟨cc, mi, hl, hs⟩ := S
  simp only [u_146_621, u_146_621n, u_146_622, u_146_622n, u_146_623, u_146_624, u_146_625, u_146_626, u_146_627, u_146_627n, u_146_628, u_146_629, u_146_630, u_146_631, u_146_632, pm_O_some, pm_w_nil, pm_w_i, pm_w_l, pm_w_r, pm_w_n, pm_c_n, pm_c_i, pm_c_l, pm_c_r, pm_c_u, Nat.reduceAdd, Nat.reduceLeDiff, true_and, Option.toList_some, Option.toList_none, List.cons_append, List.nil_append, nI_1, hx1, nI_clamp (show i + 1 < 2 ^ 31 by omega), nI_p2, hx2, nI_clamp (show i + 2 < 2 ^ 31 by omega), cc.1.cf.io]
  refine c_travel cc (fun V h1 cc1 kp => ?_) (fun nV => ?_)
  · have mi1 := mi.kp' kp
    simp only [u_146_635, u_146_635n, u_146_636, u_146_636n, u_146_637, u_146_638, u_146_639, u_146_640, u_146_641, u_146_641n, u_146_642, u_146_643, u_146_644, u_146_645, u_146_646, pm_O_some, pm_w_nil, pm_w_i, pm_w_l, pm_w_r, pm_w_n, pm_c_n, pm_c_i, pm_c_l, pm_c_r, pm_c_u, Nat.reduceAdd, Nat.reduceLeDiff, true_and, Option.toList_some, Option.toList_none, List.cons_append, List.nil_append, nI_1, hx1, nI_clamp (show i + 1 < 2 ^ 31 by omega), nI_p2, hx2, nI_clamp (show i + 2 < 2 ^ 31 by omega), mi1.io]
    refine r_travel cc.so mi1 (fun _ => ?_) (fun nV => absurd V nV)
    simp only [u_146_649, u_146_650, pm_O_some, pm_w_nil, pm_w_i, pm_w_l, pm_w_r, pm_w_n, pm_c_n, pm_c_i, pm_c_l, pm_c_r, pm_c_u, Nat.reduceAdd, Nat.reduceLeDiff, true_and, Option.toList_some, Option.toList_none, List.cons_append, List.nil_append, lc_eq, eqs, if_true]
    exact nx _ _ _ _ _ _ _ _ _ _ _ _ _ _ ⟨cc1, mi1, kp.1.trans hl, by rw [kp.2.1]; exact hs⟩
  · simp only [u_146_635, u_146_635n, u_146_636, u_146_636n, u_146_637, u_146_638, u_146_639, u_146_640, u_146_641, u_146_641n, u_146_642, u_146_643, u_146_644, u_146_645, u_146_646, pm_O_some, pm_w_nil, pm_w_i, pm_w_l, pm_w_r, pm_w_n, pm_c_n, pm_c_i, pm_c_l, pm_c_r, pm_c_u, Nat.reduceAdd, Nat.reduceLeDiff, true_and, Option.toList_some, Option.toList_none, List.cons_append, List.nil_append, nI_1, hx1, nI_clamp (show i + 1 < 2 ^ 31 by omega), nI_p2, hx2, nI_clamp (show i + 2 < 2 ^ 31 by omega), mi.io]
    refine r_travel cc.so mi (fun V => absurd V nV) (fun _ => ?_)
    simp only [u_146_649, u_146_650, pm_O_some, pm_w_nil, pm_w_i, pm_w_l, pm_w_r, pm_w_n, pm_c_n, pm_c_i, pm_c_l, pm_c_r, pm_c_u, Nat.reduceAdd, Nat.reduceLeDiff, true_and, Option.toList_some, Option.toList_none, List.cons_append, List.nil_append, lc_eq, eqs, if_true]
    exact nx _ _ _ _ _ _ _ _ _ _ _ _ _ _ ⟨cc, mi, hl, hs⟩
theorem lw_14 (hi : IXS X i) (S : LWS B h n bs ln tx nr sz tm nd dy nl lm ll jk) (nx : NXT B X i Q) : PW B X 146 655 [some (.ref X.1), some (.ref B), some (.ref (B + 71)), some (.int (nI i))] [] h Q := by
  obtain ⟨hi0, hx1, hx2, hx3, hx4, hx5⟩ := hi
  obtain ⟨cc, mi, hl, hs⟩ := S
  simp only [u_146_655, u_146_655n, u_146_656, u_146_656n, u_146_657, u_146_658, u_146_659, u_146_660, u_146_661, u_146_661n, u_146_662, u_146_663, u_146_664, u_146_665, u_146_666, pm_O_some, pm_w_nil, pm_w_i, pm_w_l, pm_w_r, pm_w_n, pm_c_n, pm_c_i, pm_c_l, pm_c_r, pm_c_u, Nat.reduceAdd, Nat.reduceLeDiff, true_and, Option.toList_some, Option.toList_none, List.cons_append, List.nil_append, nI_1, hx1, nI_clamp (show i + 1 < 2 ^ 31 by omega), nI_p2, hx2, nI_clamp (show i + 2 < 2 ^ 31 by omega), cc.1.cf.io]
  refine c_list cc (fun V h1 cc1 kp => ?_) (fun nV => ?_)
  · have mi1 := mi.kp' kp
    simp only [u_146_669, u_146_669n, u_146_670, u_146_670n, u_146_671, u_146_672, u_146_673, u_146_674, u_146_675, u_146_675n, u_146_676, u_146_677, u_146_678, u_146_679, u_146_680, pm_O_some, pm_w_nil, pm_w_i, pm_w_l, pm_w_r, pm_w_n, pm_c_n, pm_c_i, pm_c_l, pm_c_r, pm_c_u, Nat.reduceAdd, Nat.reduceLeDiff, true_and, Option.toList_some, Option.toList_none, List.cons_append, List.nil_append, nI_1, hx1, nI_clamp (show i + 1 < 2 ^ 31 by omega), nI_p2, hx2, nI_clamp (show i + 2 < 2 ^ 31 by omega), mi1.io]
    refine r_list cc.so mi1 (fun _ h2 mi2 F => ?_) (fun nV => absurd V nV)
    simp only [u_146_683, pm_O_some, pm_w_nil, pm_w_i, pm_w_l, pm_w_r, pm_w_n, pm_c_n, pm_c_i, pm_c_l, pm_c_r, pm_c_u, Nat.reduceAdd, Nat.reduceLeDiff, true_and, Option.toList_some, Option.toList_none, List.cons_append, List.nil_append, eqs, if_true]
    exact nx _ _ _ _ _ _ _ _ _ _ _ _ _ _ (LWS.mk cc1 mi2 F (kp.1.trans hl) (by rw [kp.2.1]; exact hs))
  · simp only [u_146_669, u_146_669n, u_146_670, u_146_670n, u_146_671, u_146_672, u_146_673, u_146_674, u_146_675, u_146_675n, u_146_676, u_146_677, u_146_678, u_146_679, u_146_680, pm_O_some, pm_w_nil, pm_w_i, pm_w_l, pm_w_r, pm_w_n, pm_c_n, pm_c_i, pm_c_l, pm_c_r, pm_c_u, Nat.reduceAdd, Nat.reduceLeDiff, true_and, Option.toList_some, Option.toList_none, List.cons_append, List.nil_append, nI_1, hx1, nI_clamp (show i + 1 < 2 ^ 31 by omega), nI_p2, hx2, nI_clamp (show i + 2 < 2 ^ 31 by omega), mi.io]
    refine r_list cc.so mi (fun V => absurd V nV) (fun _ => ?_)
    simp only [u_146_683, pm_O_some, pm_w_nil, pm_w_i, pm_w_l, pm_w_r, pm_w_n, pm_c_n, pm_c_i, pm_c_l, pm_c_r, pm_c_u, Nat.reduceAdd, Nat.reduceLeDiff, true_and, Option.toList_some, Option.toList_none, List.cons_append, List.nil_append, eqs, if_true]
    exact nx _ _ _ _ _ _ _ _ _ _ _ _ _ _ ⟨cc, mi, hl, hs⟩
theorem lw_15 (hi : IXS X i) (S : LWS B h n bs ln tx nr sz tm nd dy nl lm ll jk) (nx : NXT B X i Q) : PW B X 146 688 [some (.ref X.1), some (.ref B), some (.ref (B + 71)), some (.int (nI i))] [] h Q := by
  obtain ⟨hi0, hx1, hx2, hx3, hx4, hx5⟩ := hi
  obtain ⟨cc, mi, hl, hs⟩ := S
  simp only [u_146_688, u_146_688n, u_146_689, u_146_689n, u_146_690, u_146_691, u_146_692, u_146_693, u_146_694, pm_O_some, pm_w_nil, pm_w_i, pm_w_l, pm_w_r, pm_w_n, pm_c_n, pm_c_i, pm_c_l, pm_c_r, pm_c_u, Nat.reduceAdd, Nat.reduceLeDiff, true_and, Option.toList_some, Option.toList_none, List.cons_append, List.nil_append, nI_1, hx1, nI_clamp (show i + 1 < 2 ^ 31 by omega), cc.1.cf.io]
  refine c_best cc (fun V h1 cc1 kp => ?_) (fun nV => ?_)
  · have mi1 := mi.kp' kp
    simp only [u_146_697, u_146_697n, u_146_698, u_146_698n, u_146_699, u_146_700, u_146_701, u_146_702, u_146_703, pm_O_some, pm_w_nil, pm_w_i, pm_w_l, pm_w_r, pm_w_n, pm_c_n, pm_c_i, pm_c_l, pm_c_r, pm_c_u, Nat.reduceAdd, Nat.reduceLeDiff, true_and, Option.toList_some, Option.toList_none, List.cons_append, List.nil_append, nI_1, hx1, nI_clamp (show i + 1 < 2 ^ 31 by omega), mi1.io]
    refine r_best cc.so mi1 (fun _ h2 mi2 F => ?_) (fun nV => absurd V nV)
    simp only [u_146_706, pm_O_some, pm_w_nil, pm_w_i, pm_w_l, pm_w_r, pm_w_n, pm_c_n, pm_c_i, pm_c_l, pm_c_r, pm_c_u, Nat.reduceAdd, Nat.reduceLeDiff, true_and, Option.toList_some, Option.toList_none, List.cons_append, List.nil_append, eqs, if_true]
    exact nx _ _ _ _ _ _ _ _ _ _ _ _ _ _ (LWS.mk cc1 mi2 F (kp.1.trans hl) (by rw [kp.2.1]; exact hs))
  · simp only [u_146_697, u_146_697n, u_146_698, u_146_698n, u_146_699, u_146_700, u_146_701, u_146_702, u_146_703, pm_O_some, pm_w_nil, pm_w_i, pm_w_l, pm_w_r, pm_w_n, pm_c_n, pm_c_i, pm_c_l, pm_c_r, pm_c_u, Nat.reduceAdd, Nat.reduceLeDiff, true_and, Option.toList_some, Option.toList_none, List.cons_append, List.nil_append, nI_1, hx1, nI_clamp (show i + 1 < 2 ^ 31 by omega), mi.io]
    refine r_best cc.so mi (fun V => absurd V nV) (fun _ => ?_)
    simp only [u_146_706, pm_O_some, pm_w_nil, pm_w_i, pm_w_l, pm_w_r, pm_w_n, pm_c_n, pm_c_i, pm_c_l, pm_c_r, pm_c_u, Nat.reduceAdd, Nat.reduceLeDiff, true_and, Option.toList_some, Option.toList_none, List.cons_append, List.nil_append, eqs, if_true]
    exact nx _ _ _ _ _ _ _ _ _ _ _ _ _ _ ⟨cc, mi, hl, hs⟩
theorem lw_16 (hi : IXS X i) (S : LWS B h n bs ln tx nr sz tm nd dy nl lm ll jk) (nx : NXT B X i Q) : PW B X 146 711 [some (.ref X.1), some (.ref B), some (.ref (B + 71)), some (.int (nI i))] [] h Q := by
  obtain ⟨hi0, hx1, hx2, hx3, hx4, hx5⟩ := hi
  obtain ⟨cc, mi, hl, hs⟩ := S
  simp only [u_146_711, u_146_711n, u_146_712, u_146_712n, u_146_713, u_146_714, u_146_715, u_146_716, u_146_717, u_146_717n, u_146_718, u_146_719, u_146_720, u_146_721, u_146_722, pm_O_some, pm_w_nil, pm_w_i, pm_w_l, pm_w_r, pm_w_n, pm_c_n, pm_c_i, pm_c_l, pm_c_r, pm_c_u, Nat.reduceAdd, Nat.reduceLeDiff, true_and, Option.toList_some, Option.toList_none, List.cons_append, List.nil_append, nI_1, hx1, nI_clamp (show i + 1 < 2 ^ 31 by omega), nI_p2, hx2, nI_clamp (show i + 2 < 2 ^ 31 by omega), cc.1.cf.io]
  refine c_jack cc (fun V h1 cc1 kp => ?_) (fun nV => ?_)
  · have mi1 := mi.kp' kp
    simp only [u_146_725, u_146_725n, u_146_726, u_146_726n, u_146_727, u_146_728, u_146_729, u_146_730, u_146_731, u_146_731n, u_146_732, u_146_733, u_146_734, u_146_735, u_146_736, pm_O_some, pm_w_nil, pm_w_i, pm_w_l, pm_w_r, pm_w_n, pm_c_n, pm_c_i, pm_c_l, pm_c_r, pm_c_u, Nat.reduceAdd, Nat.reduceLeDiff, true_and, Option.toList_some, Option.toList_none, List.cons_append, List.nil_append, nI_1, hx1, nI_clamp (show i + 1 < 2 ^ 31 by omega), nI_p2, hx2, nI_clamp (show i + 2 < 2 ^ 31 by omega), mi1.io]
    refine r_jack cc.so mi1 (fun _ h2 mi2 F => ?_) (fun nV => absurd V nV)
    simp only [u_146_739, pm_O_some, pm_w_nil, pm_w_i, pm_w_l, pm_w_r, pm_w_n, pm_c_n, pm_c_i, pm_c_l, pm_c_r, pm_c_u, Nat.reduceAdd, Nat.reduceLeDiff, true_and, Option.toList_some, Option.toList_none, List.cons_append, List.nil_append, eqs, if_true]
    exact nx _ _ _ _ _ _ _ _ _ _ _ _ _ _ (LWS.mk cc1 mi2 F (kp.1.trans hl) (by rw [kp.2.1]; exact hs))
  · simp only [u_146_725, u_146_725n, u_146_726, u_146_726n, u_146_727, u_146_728, u_146_729, u_146_730, u_146_731, u_146_731n, u_146_732, u_146_733, u_146_734, u_146_735, u_146_736, pm_O_some, pm_w_nil, pm_w_i, pm_w_l, pm_w_r, pm_w_n, pm_c_n, pm_c_i, pm_c_l, pm_c_r, pm_c_u, Nat.reduceAdd, Nat.reduceLeDiff, true_and, Option.toList_some, Option.toList_none, List.cons_append, List.nil_append, nI_1, hx1, nI_clamp (show i + 1 < 2 ^ 31 by omega), nI_p2, hx2, nI_clamp (show i + 2 < 2 ^ 31 by omega), mi.io]
    refine r_jack cc.so mi (fun V => absurd V nV) (fun _ => ?_)
    simp only [u_146_739, pm_O_some, pm_w_nil, pm_w_i, pm_w_l, pm_w_r, pm_w_n, pm_c_n, pm_c_i, pm_c_l, pm_c_r, pm_c_u, Nat.reduceAdd, Nat.reduceLeDiff, true_and, Option.toList_some, Option.toList_none, List.cons_append, List.nil_append, eqs, if_true]
    exact nx _ _ _ _ _ _ _ _ _ _ _ _ _ _ ⟨cc, mi, hl, hs⟩
theorem lw_17 (hi : IXS X i) (S : LWS B h n bs ln tx nr sz tm nd dy nl lm ll jk) (nx : NXT B X i Q) : PW B X 146 744 [some (.ref X.1), some (.ref B), some (.ref (B + 71)), some (.int (nI i))] [] h Q := by
  obtain ⟨hi0, hx1, hx2, hx3, hx4, hx5⟩ := hi
  obtain ⟨cc, mi, hl, hs⟩ := S
  simp only [u_146_744, u_146_744n, u_146_745, u_146_745n, u_146_746, u_146_747, u_146_748, u_146_749, u_146_750, u_146_750n, u_146_751, u_146_752, u_146_753, u_146_754, u_146_755, pm_O_some, pm_w_nil, pm_w_i, pm_w_l, pm_w_r, pm_w_n, pm_c_n, pm_c_i, pm_c_l, pm_c_r, pm_c_u, Nat.reduceAdd, Nat.reduceLeDiff, true_and, Option.toList_some, Option.toList_none, List.cons_append, List.nil_append, nI_1, hx1, nI_clamp (show i + 1 < 2 ^ 31 by omega), nI_p2, hx2, nI_clamp (show i + 2 < 2 ^ 31 by omega), cc.1.cf.io]
  refine c_raised cc (fun V => ?_) (fun nV => ?_)
  · simp only [u_146_758, u_146_758n, u_146_759, u_146_759n, u_146_760, u_146_761, u_146_762, u_146_763, u_146_764, u_146_764n, u_146_765, u_146_766, u_146_767, u_146_768, u_146_769, pm_O_some, pm_w_nil, pm_w_i, pm_w_l, pm_w_r, pm_w_n, pm_c_n, pm_c_i, pm_c_l, pm_c_r, pm_c_u, Nat.reduceAdd, Nat.reduceLeDiff, true_and, Option.toList_some, Option.toList_none, List.cons_append, List.nil_append, nI_1, hx1, nI_clamp (show i + 1 < 2 ^ 31 by omega), nI_p2, hx2, nI_clamp (show i + 2 < 2 ^ 31 by omega), mi.io]
    refine r_raised cc.so mi (fun _ => ?_) (fun nV => absurd V nV)
    simp only [u_146_772, pm_O_some, pm_w_nil, pm_w_i, pm_w_l, pm_w_r, pm_w_n, pm_c_n, pm_c_i, pm_c_l, pm_c_r, pm_c_u, Nat.reduceAdd, Nat.reduceLeDiff, true_and, Option.toList_some, Option.toList_none, List.cons_append, List.nil_append, eqs, if_true]
    exact nx _ _ _ _ _ _ _ _ _ _ _ _ _ _ ⟨cc, mi, hl, hs⟩
  · simp only [u_146_758, u_146_758n, u_146_759, u_146_759n, u_146_760, u_146_761, u_146_762, u_146_763, u_146_764, u_146_764n, u_146_765, u_146_766, u_146_767, u_146_768, u_146_769, pm_O_some, pm_w_nil, pm_w_i, pm_w_l, pm_w_r, pm_w_n, pm_c_n, pm_c_i, pm_c_l, pm_c_r, pm_c_u, Nat.reduceAdd, Nat.reduceLeDiff, true_and, Option.toList_some, Option.toList_none, List.cons_append, List.nil_append, nI_1, hx1, nI_clamp (show i + 1 < 2 ^ 31 by omega), nI_p2, hx2, nI_clamp (show i + 2 < 2 ^ 31 by omega), mi.io]
    refine r_raised cc.so mi (fun V => absurd V nV) (fun _ => ?_)
    simp only [u_146_772, pm_O_some, pm_w_nil, pm_w_i, pm_w_l, pm_w_r, pm_w_n, pm_c_n, pm_c_i, pm_c_l, pm_c_r, pm_c_u, Nat.reduceAdd, Nat.reduceLeDiff, true_and, Option.toList_some, Option.toList_none, List.cons_append, List.nil_append, eqs, if_true]
    exact nx _ _ _ _ _ _ _ _ _ _ _ _ _ _ ⟨cc, mi, hl, hs⟩
theorem lw_18 (hi : IXS X i) (S : LWS B h n bs ln tx nr sz tm nd dy nl lm ll jk) (nx : NXT B X i Q) : PW B X 146 777 [some (.ref X.1), some (.ref B), some (.ref (B + 71)), some (.int (nI i))] [] h Q := by
  obtain ⟨hi0, hx1, hx2, hx3, hx4, hx5⟩ := hi
  obtain ⟨cc, mi, hl, hs⟩ := S
  simp only [u_146_777, u_146_777n, u_146_778, u_146_778n, u_146_779, u_146_780, u_146_781, u_146_782, u_146_783, pm_O_some, pm_w_nil, pm_w_i, pm_w_l, pm_w_r, pm_w_n, pm_c_n, pm_c_i, pm_c_l, pm_c_r, pm_c_u, Nat.reduceAdd, Nat.reduceLeDiff, true_and, Option.toList_some, Option.toList_none, List.cons_append, List.nil_append, nI_1, hx1, nI_clamp (show i + 1 < 2 ^ 31 by omega), cc.1.cf.io]
  refine c_inspect cc (fun V j h1 j1 j2 cc1 kp => ?_) (fun nV => ?_)
  · have mi1 := mi.kp' kp
    simp only [u_146_786, u_146_786n, u_146_787, u_146_787n, u_146_788, u_146_789, u_146_790, u_146_791, u_146_792, pm_O_some, pm_w_nil, pm_w_i, pm_w_l, pm_w_r, pm_w_n, pm_c_n, pm_c_i, pm_c_l, pm_c_r, pm_c_u, Nat.reduceAdd, Nat.reduceLeDiff, true_and, Option.toList_some, Option.toList_none, List.cons_append, List.nil_append, nI_1, hx1, nI_clamp (show i + 1 < 2 ^ 31 by omega), mi1.io]
    refine r_inspect cc.so mi1 (fun _ j3 h2 j4 j5 mi2 F => ?_) (fun nV => absurd V nV)
    rw [show j3 = j from plc_inj j4 j1 (j5.trans j2.symm)]
    simp only [u_146_795, pm_O_some, pm_w_nil, pm_w_i, pm_w_l, pm_w_r, pm_w_n, pm_c_n, pm_c_i, pm_c_l, pm_c_r, pm_c_u, Nat.reduceAdd, Nat.reduceLeDiff, true_and, Option.toList_some, Option.toList_none, List.cons_append, List.nil_append, eqs, if_true]
    exact nx _ _ _ _ _ _ _ _ _ _ _ _ _ _ (LWS.mk cc1 mi2 F (kp.1.trans hl) (by rw [kp.2.1]; exact hs))
  · simp only [u_146_786, u_146_786n, u_146_787, u_146_787n, u_146_788, u_146_789, u_146_790, u_146_791, u_146_792, pm_O_some, pm_w_nil, pm_w_i, pm_w_l, pm_w_r, pm_w_n, pm_c_n, pm_c_i, pm_c_l, pm_c_r, pm_c_u, Nat.reduceAdd, Nat.reduceLeDiff, true_and, Option.toList_some, Option.toList_none, List.cons_append, List.nil_append, nI_1, hx1, nI_clamp (show i + 1 < 2 ^ 31 by omega), mi.io]
    refine r_inspect cc.so mi (fun V => absurd V nV) (fun _ => ?_)
    simp only [u_146_795, pm_O_some, pm_w_nil, pm_w_i, pm_w_l, pm_w_r, pm_w_n, pm_c_n, pm_c_i, pm_c_l, pm_c_r, pm_c_u, Nat.reduceAdd, Nat.reduceLeDiff, true_and, Option.toList_some, Option.toList_none, List.cons_append, List.nil_append, eqs, if_true]
    exact nx _ _ _ _ _ _ _ _ _ _ _ _ _ _ ⟨cc, mi, hl, hs⟩
theorem lw_19 (hi : IXS X i) (S : LWS B h n bs ln tx nr sz tm nd dy nl lm ll jk) (nx : NXT B X i Q) : PW B X 146 800 [some (.ref X.1), some (.ref B), some (.ref (B + 71)), some (.int (nI i))] [] h Q := by
  obtain ⟨hi0, hx1, hx2, hx3, hx4, hx5⟩ := hi
  obtain ⟨cc, mi, hl, hs⟩ := S
  simp only [u_146_800, u_146_800n, u_146_801, u_146_801n, u_146_802, u_146_803, u_146_804, u_146_805, u_146_806, pm_O_some, pm_w_nil, pm_w_i, pm_w_l, pm_w_r, pm_w_n, pm_c_n, pm_c_i, pm_c_l, pm_c_r, pm_c_u, Nat.reduceAdd, Nat.reduceLeDiff, true_and, Option.toList_some, Option.toList_none, List.cons_append, List.nil_append, nI_1, hx1, nI_clamp (show i + 1 < 2 ^ 31 by omega), cc.1.cf.io]
  refine (c_count cc).mpr ?_
  simp only [u_146_809, u_146_809n, u_146_810, u_146_810n, u_146_811, u_146_812, u_146_813, u_146_814, u_146_815, pm_O_some, pm_w_nil, pm_w_i, pm_w_l, pm_w_r, pm_w_n, pm_c_n, pm_c_i, pm_c_l, pm_c_r, pm_c_u, Nat.reduceAdd, Nat.reduceLeDiff, true_and, Option.toList_some, Option.toList_none, List.cons_append, List.nil_append, nI_1, hx1, nI_clamp (show i + 1 < 2 ^ 31 by omega), mi.io]
  refine r_count cc.so mi ?_
  simp only [u_146_818, pm_O_some, pm_w_nil, pm_w_i, pm_w_l, pm_w_r, pm_w_n, pm_c_n, pm_c_i, pm_c_l, pm_c_r, pm_c_u, Nat.reduceAdd, Nat.reduceLeDiff, true_and, Option.toList_some, Option.toList_none, List.cons_append, List.nil_append, eqs, if_true]
  exact nx _ _ _ _ _ _ _ _ _ _ _ _ _ _ ⟨cc, mi, hl, hs⟩
end LWC

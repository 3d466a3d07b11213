/-! THE REFERENCE: rank, locked. -/
section RKS
variable {B : Nat} {X : pm_X} {h h' h2 : pm_H} {Q : Option Value → pm_H → Prop} {m lo hi n ln nr nd nl i N : Nat} {bs : Nat → Bg} {tx sz lm ll : Nat → Nat} {tm : Nat → Nat → Tm} {dy : Nat → Int} {jk : Option (Nat × Nat)} {gr : Int32} {f : Nat → Int64} {W : Nat → Nat → Int}
theorem MI.rwx (n1 : MI B h m n bs ln tx nr sz tm nd dy nl lm ll jk) : MI B (rwh B h m f) m n bs ln tx nr sz tm nd dy nl lm ll jk ∧ Frm B h (rwh B h m f) m (m + 24) := by
  obtain ⟨a1, a2, a3, a4, a5, a6, a7, a8, a9, a10, a11, ⟨f0, a12⟩, R, a13⟩ := n1
  have F := Frm.set (e := .inl (1, 80, .inr (.inl f))) a12 rfl
  exact ⟨⟨a1.frm F.fx (by omega), a2.frm F.fx (by omega), a3.frm F.fx (by omega), a4.frm F.fx (by omega), a5.frm F.fx (by omega), a6.frm F.fx (by omega), a7.frm F.fx (by omega), a8.frm F.fx (by omega), a9.frm F.fx (by omega), a10.frm F.fx (by omega), a11.frm F.fx (by omega), ⟨f, pm_at_self (pm_v_at a12)⟩, R, a13.fx F.fx (by omega)⟩, F.mono (by omega) (by omega)⟩
theorem RWv.lay (hW : RWv f N W) {w : Nat → Int} {a b c d : Int64} (ha : a = lI (w 0)) (hb : b = lI (w 1)) (hc : c = lI (w 2)) (hd : d = lI (w 3)) : RWv (vp_updL (vp_updL (vp_updL (vp_updL f (4 * N) a) (4 * N + 1) b) (4 * N + 2) c) (4 * N + 3) d) (N + 1) (ups W N w) := by
  intro r j hr hj
  by_cases cr : r = N
  · subst cr
    rw [ups_s]
    rcases (show j = 0 ∨ j = 1 ∨ j = 2 ∨ j = 3 by omega) with z | z | z | z
    · subst z
      rw [updL_n (by omega), updL_n (by omega), updL_n (by omega)]
      exact updL_s.trans ha
    · subst z
      rw [updL_n (by omega), updL_n (by omega), updL_s]
      exact hb
    · subst z
      rw [updL_n (by omega), updL_s]
      exact hc
    · subst z
      rw [updL_s]
      exact hd
  · rw [ups_n cr, updL_n (by omega), updL_n (by omega), updL_n (by omega), updL_n (by omega)]
    exact hW r j (by omega) hj
set_option maxHeartbeats 1000000 in
theorem r_rank (so : SO n bs ln tx nr sz tm nd dy nl lm ll jk) (n1 : MI B h m n bs ln tx nr sz tm nd dy nl lm ll jk) (hQ : ∀ k h', RK bs n (¬ gr = 0) k → MI B h' m n bs ln tx nr sz tm nd dy nl lm ll jk → Frm B h h' m (m + 24) → Q (some (.int (nI k))) h') :
    PW B X 126 0 [some (.ref m), some (.int gr), none, none, none, none, none, none, none, none, none, none] [] h Q := by
  have hn := so.1.1
  have ok : ∀ i, i < n → bgok (bs i) := fun i hi => (so.1.2 i hi).1
  obtain ⟨⟨x8, x9, x13, jh, jm, x31, x32, cc, cj⟩, ⟨fx, fy, b1, b2, b3⟩, ⟨fh, b4, b5⟩, a4, a5, a6, a7, a8, a9, a10, a11, ⟨f0, a12⟩, a13⟩ := id n1
  have v := pm_v_at a12
  have C : ∀ {f : Nat → Int64}, MC B (rwh B h m f) m (nI n) (nI ln) x8 x9 (nI nr) x13 (nI nd) (nI nl) jh jm x31 x32 := fun {f} => rw_c v cc
  have fin : ∀ k f w5 w6 w7 w8 w9 w10 w11, RK bs n (¬ gr = 0) k → ∀ N, PW B X 126 112 [some (.ref m), some (.int gr), some (.int N), some (.int (nI k)), some (.int (nI 4)), w5, w6, w7, w8, w9, w10, w11] [] (rwh B h m f) Q := by
    intro k f w5 w6 w7 w8 w9 w10 w11 hk N
    have e4 : (4 : Int32) ≤ nI 4 := by decide
    simp only [u_126_112, u_126_114, u_126_115, u_126_337, u_126_338, pm_O_some, pm_w_nil, pm_w_i, pm_w_l, pm_w_r, pm_w_n, pm_c_n, pm_c_i, pm_c_l, pm_c_r, pm_c_u, Nat.reduceAdd, Nat.reduceLeDiff, true_and, Option.toList_some, Option.toList_none, List.cons_append, List.nil_append, if_pos e4]
    exact hQ k _ hk n1.rwx.1 n1.rwx.2
  have elim : ∀ N f W, N ≤ 20 → RWv f N W → (∀ r, r < N → ∃ ax i, ax < 2 ∧ i < n ∧ hd bs ax i ∧ ∀ j, j < 4 → W r j = rwx bs gr ax i j) → (∀ ax i, ax < 2 → i < n → hd bs ax i → ∃ r, r < N ∧ ∀ j, j < 4 → W r j = rwx bs gr ax i j) → PW B X 126 112 [some (.ref m), some (.int gr), some (.int (nI N)), some (.int (nI 0)), some (.int (nI 0)), none, none, none, none, none, none, none] [] (rwh B h m f) Q := by
    intro N f W hN hW L0 L1
    have col23 : ∀ o0 o1 f W w5 w6 w7 w8 w9 w10 w11, RWv f N W → Inv2 bs n gr o0 o1 N W → oc o0 + oc o1 ≤ N → PW B X 126 112 [some (.ref m), some (.int gr), some (.int (nI N)), some (.int (nI (oc o0 + oc o1))), some (.int (nI 2)), w5, w6, w7, w8, w9, w10, w11] [] (rwh B h m f) Q := by
      intro o0 o1 f W w5 w6 w7 w8 w9 w10 w11 hW I hoc
      have K3 := I.2.2.1
      obtain ⟨ax0, ax1⟩ := I.2.2.2
      refine z_col v cc (by omega) hN hoc hW (fun r j h1 h2 hj => by have := K3 r j h1 h2 hj; omega) (fun z2 w5 w6 w7 w8 w9 w10 w11 => ?_) (fun p f' W' p1 p2 p3 hW' pr' hcl w5 w6 w7 w8 w9 w10 w11 => ?_)
      · refine z_col (c := 3) v cc (by omega) hN hoc hW (fun r j h1 h2 hj => by have := K3 r j h1 h2 hj; omega) (fun z3 w5 w6 w7 w8 w9 w10 w11 => ?_) (fun p f' W' p1 p2 p3 hW' pr' hcl w5 w6 w7 w8 w9 w10 w11 => ?_)
        · exact fin _ _ _ _ _ _ _ _ _ (fin_rk (c := 0) ax0 ax1 (ph2n3n I z2 z3)) _
        · exact fin _ _ _ _ _ _ _ _ _ (fin_rk (c := 1) ax0 ax1 (ph2n3s I z2 p1 p2 p3)) _
      · have P := ph2s I hcl p1 p2
        refine z_col (c := 3) v cc (by omega) hN (by omega) hW' (fun r j h1 h2 hj => ?_) (fun z3 w5 w6 w7 w8 w9 w10 w11 => ?_) (fun p' f'' W'' p1' p2' p3' hW'' pr'' hcl' w5 w6 w7 w8 w9 w10 w11 => ?_)
        · obtain ⟨y0, y1, y2, y3, _⟩ := P r h1 h2
          rcases (show j = 0 ∨ j = 1 ∨ j = 2 ∨ j = 3 by omega) with z | z | z | z <;> subst z
          · rw [y0]; decide
          · rw [y1]; decide
          · rw [y2]; decide
          · omega
        · exact fin _ _ _ _ _ _ _ _ _ (fin_rk (c := 1) ax0 ax1 (ph2s3n I hcl p1 p2 p3 z3)) _
        · exact fin _ _ _ _ _ _ _ _ _ (fin_rk (c := 2) ax0 ax1 (ph2s3s I hcl p1 p2 p1' p2' p3')) _
    have col1 : ∀ o0 f W w5 w6 w7 w8 w9 w10 w11, RWv f N W → Inv1 bs n gr o0 N W → oc o0 ≤ N → PW B X 126 112 [some (.ref m), some (.int gr), some (.int (nI N)), some (.int (nI (oc o0))), some (.int (nI 1)), w5, w6, w7, w8, w9, w10, w11] [] (rwh B h m f) Q := by
      intro o0 f W w5 w6 w7 w8 w9 w10 w11 hW I hoc
      have K3 := I.2.2.2.1
      refine z_col v cc (by omega) hN hoc hW (fun r j h1 h2 hj => by have := K3 r j h1 h2 hj; omega) (fun z1 w5 w6 w7 w8 w9 w10 w11 => ?_) (fun p f' W' p1 p2 p3 hW' pr' hcl w5 w6 w7 w8 w9 w10 w11 => ?_)
      · exact col23 o0 none f W _ _ _ _ _ _ _ hW (ph1n I z1) hoc
      · obtain ⟨g, I2⟩ := ph1s I ok p1 p2 p3 hcl
        exact col23 o0 (some g) f' W' _ _ _ _ _ _ _ hW' I2 (show oc o0 + 1 ≤ N by omega)
    refine z_col v cc (by omega) hN (Nat.zero_le _) hW (fun r j h1 h2 hj => ?_) (fun z0 w5 w6 w7 w8 w9 w10 w11 => ?_) (fun p f' W' p1 p2 p3 hW' pr' hcl w5 w6 w7 w8 w9 w10 w11 => ?_)
    · obtain ⟨ax, i, q1, q2, q3, q4⟩ := L0 r h2
      rw [q4 j hj]
      have := rwx_b (gr := gr) (ax := ax) (j := j) (ok i q2)
      omega
    · exact col1 none f W _ _ _ _ _ _ _ hW (ph0n L0 L1 ok z0) (Nat.zero_le _)
    · obtain ⟨g, I1⟩ := ph0s L0 L1 ok p2 p3 hcl
      exact col1 (some g) f' W' _ _ _ _ _ _ _ hW' I1 (show 1 ≤ N by omega)
  have lay : ∀ d k N f W, k + d = n → N ≤ 2 * k → RWv f N W → (∀ r, r < N → ∃ ax i, ax < 2 ∧ i < n ∧ hd bs ax i ∧ ∀ j, j < 4 → W r j = rwx bs gr ax i j) → (∀ ax i, ax < 2 → i < k → hd bs ax i → ∃ r, r < N ∧ ∀ j, j < 4 → W r j = rwx bs gr ax i j) → PW B X 126 4 [some (.ref m), some (.int gr), some (.int (nI N)), some (.int (nI k)), none, none, none, none, none, none, none, none] [] (rwh B h m f) Q := by
    intro d
    induction d with
    | zero =>
      intro k N f W hk hN hW L0 L1
      obtain rfl : k = n := by omega
      have e1 : nI k ≤ nI k := nI_le (Nat.le_refl _) (by omega)
      simp only [u_126_4, u_126_5, u_126_5n, u_126_6, u_126_9, u_126_107, u_126_108, u_126_109, u_126_110, pm_O_some, pm_w_nil, pm_w_i, pm_w_l, pm_w_r, pm_w_n, pm_c_n, pm_c_i, pm_c_l, pm_c_r, pm_c_u, Nat.reduceAdd, Nat.reduceLeDiff, true_and, Option.toList_some, Option.toList_none, List.cons_append, List.nil_append, C.g0, if_pos e1]
      exact elim N f W (by omega) hW L0 L1
    | succ d ih =>
      intro k N f W hk hN hW L0 L1
      have hk1 : k < n := by omega
      have e1 : ¬ nI n ≤ nI k := nI_ge hk1 (by omega)
      have x2 : (2 : Int32) * nI k = nI (2 * k) := pk_mul 2 k
      obtain ⟨h1, h2⟩ := b5 k (by omega)
      rw [df_in hk1] at h1 h2
      obtain ⟨y1, y2⟩ := b3 k hk1
      have o := ok k hk1
      unfold bgok at o
      have b1' : ∀ {f : Nat → Int64}, pm_at B (rwh B h m f) (m + 1) = some (.inl (0, 10, .inl fx)) := fun {f} => (rw_ne v (by omega)).trans b1
      have b2' : ∀ {f : Nat → Int64}, pm_at B (rwh B h m f) (m + 2) = some (.inl (0, 10, .inl fy)) := fun {f} => (rw_ne v (by omega)).trans b2
      have b4' : ∀ {f : Nat → Int64}, pm_at B (rwh B h m f) (m + 3) = some (.inl (3, 20, .inl fh)) := fun {f} => (rw_ne v (by omega)).trans b4
      have grow : ∀ N f W ax, RWv f N W → (∀ r, r < N → ∃ ax i, ax < 2 ∧ i < n ∧ hd bs ax i ∧ ∀ j, j < 4 → W r j = rwx bs gr ax i j) → ax < 2 → hd bs ax k → (∀ r, r < N + 1 → ∃ ax i, ax < 2 ∧ i < n ∧ hd bs ax i ∧ ∀ j, j < 4 → ups W N (rwx bs gr ax k) r j = rwx bs gr ax i j) ∨ True := fun _ _ _ _ _ _ _ _ => Or.inr trivial
      have L0' : ∀ N W ax', ax' < 2 → hd bs ax' k → (∀ r, r < N → ∃ ax i, ax < 2 ∧ i < n ∧ hd bs ax i ∧ ∀ j, j < 4 → W r j = rwx bs gr ax i j) → ∀ r, r < N + 1 → ∃ ax i, ax < 2 ∧ i < n ∧ hd bs ax i ∧ ∀ j, j < 4 → ups W N (rwx bs gr ax' k) r j = rwx bs gr ax i j := by
        intro N W ax' ha' hh' L0 r hr
        by_cases cr : r = N
        · subst cr
          rw [ups_s]
          exact ⟨ax', k, ha', hk1, hh', fun _ _ => rfl⟩
        · rw [ups_n cr]
          exact L0 r (by omega)
      have keepL : ∀ {N : Nat} {W : Nat → Nat → Int} {w : Nat → Int} {ax i : Nat}, (∃ r, r < N ∧ ∀ j, j < 4 → W r j = rwx bs gr ax i j) → ∃ r, r < N + 1 ∧ ∀ j, j < 4 → ups W N w r j = rwx bs gr ax i j := by
        intro N W w ax i z
        obtain ⟨r, r1, r2⟩ := z
        exact ⟨r, by omega, by rw [ups_n (by omega)]; exact r2⟩
      have second : ∀ N f W, N ≤ 2 * k + 1 → RWv f N W → (∀ r, r < N → ∃ ax i, ax < 2 ∧ i < n ∧ hd bs ax i ∧ ∀ j, j < 4 → W r j = rwx bs gr ax i j) → (∀ ax i, ax < 2 → (i < k ∨ (i = k ∧ ax = 0)) → hd bs ax i → ∃ r, r < N ∧ ∀ j, j < 4 → W r j = rwx bs gr ax i j) → PW B X 126 56 [some (.ref m), some (.int gr), some (.int (nI N)), some (.int (nI k)), none, none, none, none, none, none, none, none] [] (rwh B h m f) Q := by
        intro N f W hN hW L0 L1
        by_cases c1 : (bs k).2.2.2.1 = 0
        · have hnh : ¬ hd bs 1 k := fun z => by
            unfold hd at z
            rw [if_neg (by decide)] at z
            exact z c1
          simp only [u_126_56, u_126_56n, u_126_57, u_126_60, u_126_61, u_126_62, u_126_63, u_126_64, u_126_65, u_126_66, u_126_101, u_126_104, pm_O_some, pm_w_nil, pm_w_i, pm_w_l, pm_w_r, pm_w_n, pm_c_n, pm_c_i, pm_c_l, pm_c_r, pm_c_u, Nat.reduceAdd, Nat.reduceLeDiff, true_and, Option.toList_some, Option.toList_none, List.cons_append, List.nil_append, C.g3, b4', x2, nI_1, ld_i (t := 3) (ix_20 (show 2 * k + 1 < 20 by omega)) rfl, nI_clamp (show 2 * k + 1 < 2 ^ 31 by omega), h2, c1, if_true]
          refine ih (k + 1) N f W (by omega) (by omega) hW L0 (fun ax i hax hi hh => ?_)
          by_cases ci : i < k
          · exact L1 ax i hax (Or.inl ci) hh
          · obtain rfl : i = k := by omega
            rcases (show ax = 0 ∨ ax = 1 by omega) with z | z
            · exact L1 ax i hax (Or.inr ⟨rfl, z⟩) hh
            · subst z
              exact absurd hh hnh
        · have hh1 : hd bs 1 k := by
            unfold hd
            rw [if_neg (by decide)]
            exact c1
          have nx : ∀ dd, dd = lI (rwx bs gr 1 k 3) → PW B X 126 98 [some (.ref m), some (.int gr), some (.int (nI N)), some (.int (nI k)), none, none, none, none, none, none, none, none] [] (rwh B h m (vp_updL (vp_updL (vp_updL (vp_updL f (4 * N) 0) (4 * N + 1) 1) (4 * N + 2) ((bs k).1).toInt64) (4 * N + 3) dd)) Q := by
            intro dd hdd
            simp only [u_126_98, u_126_101, u_126_104, pm_O_some, pm_w_nil, pm_w_i, pm_w_l, pm_w_r, pm_w_n, pm_c_n, pm_c_i, pm_c_l, pm_c_r, pm_c_u, Nat.reduceAdd, Nat.reduceLeDiff, true_and, Option.toList_some, Option.toList_none, List.cons_append, List.nil_append, nI_1]
            refine ih (k + 1) (N + 1) _ (ups W N (rwx bs gr 1 k)) (by omega) (by omega) (hW.lay rfl rfl (by rw [iL]; rfl) hdd) (L0' N W 1 (by omega) hh1 L0) (fun ax i hax hi hh => ?_)
            by_cases ci : i < k
            · exact keepL (L1 ax i hax (Or.inl ci) hh)
            · obtain rfl : i = k := by omega
              rcases (show ax = 0 ∨ ax = 1 by omega) with z | z
              · exact keepL (L1 ax i hax (Or.inr ⟨rfl, z⟩) hh)
              · subst z
                exact ⟨N, by omega, fun j hj => by rw [ups_s]⟩
          by_cases cg : gr = 0
          · simp only [u_126_56, u_126_56n, u_126_57, u_126_60, u_126_61, u_126_62, u_126_63, u_126_64, u_126_65, u_126_66, u_126_69, u_126_69n, u_126_70, u_126_71, u_126_72, u_126_73, u_126_73n, u_126_74, u_126_77, u_126_78, u_126_79, u_126_80, u_126_81, u_126_94, u_126_95, pm_O_some, pm_w_nil, pm_w_i, pm_w_l, pm_w_r, pm_w_n, pm_c_n, pm_c_i, pm_c_l, pm_c_r, pm_c_u, Nat.reduceAdd, Nat.reduceLeDiff, true_and, Option.toList_some, Option.toList_none, List.cons_append, List.nil_append, C.g3, C.g1, C.io, b4', b1', x2, nI_1, ld_i (t := 3) (ix_20 (show 2 * k + 1 < 20 by omega)) rfl, nI_clamp (show 2 * k + 1 < 2 ^ 31 by omega), h2, c1, if_false, ld_i (t := 0) (ix_10 (show k < 10 by omega)) rfl, nI_clamp (show k < 2 ^ 31 by omega), y1, if_pos cg, z_lay v cc (show N < 20 by omega)]
            exact nx _ (by unfold rwx; rw [if_neg (by decide), if_neg (by decide), if_neg (by decide), if_pos cg]; rfl)
          · simp only [u_126_56, u_126_56n, u_126_57, u_126_60, u_126_61, u_126_62, u_126_63, u_126_64, u_126_65, u_126_66, u_126_69, u_126_69n, u_126_70, u_126_71, u_126_72, u_126_73, u_126_73n, u_126_74, u_126_77, u_126_78, u_126_79, u_126_80, u_126_81, u_126_84, u_126_84n, u_126_85, u_126_88, u_126_89, u_126_90, u_126_91, u_126_94, u_126_95, pm_O_some, pm_w_nil, pm_w_i, pm_w_l, pm_w_r, pm_w_n, pm_c_n, pm_c_i, pm_c_l, pm_c_r, pm_c_u, Nat.reduceAdd, Nat.reduceLeDiff, true_and, Option.toList_some, Option.toList_none, List.cons_append, List.nil_append, C.g3, C.g1, C.g2, C.io, b4', b1', b2', x2, nI_1, ld_i (t := 3) (ix_20 (show 2 * k + 1 < 20 by omega)) rfl, nI_clamp (show 2 * k + 1 < 2 ^ 31 by omega), h2, c1, if_false, ld_i (t := 0) (ix_10 (show k < 10 by omega)) rfl, nI_clamp (show k < 2 ^ 31 by omega), y1, y2, if_neg cg, z_lay v cc (show N < 20 by omega)]
            exact nx _ (by unfold rwx; rw [if_neg (by decide), if_neg (by decide), if_neg (by decide), if_neg cg, iL]; rfl)
      rw [u_126_4]
      by_cases c1 : (bs k).2.2.1 = 0
      · have hnh : ¬ hd bs 0 k := fun z => by
          unfold hd at z
          rw [if_pos rfl] at z
          exact z c1
        simp only [u_126_5, u_126_5n, u_126_6, u_126_9, u_126_12, u_126_12n, u_126_13, u_126_16, u_126_17, u_126_18, u_126_19, u_126_20, pm_O_some, pm_w_nil, pm_w_i, pm_w_l, pm_w_r, pm_w_n, pm_c_n, pm_c_i, pm_c_l, pm_c_r, pm_c_u, Nat.reduceAdd, Nat.reduceLeDiff, true_and, Option.toList_some, Option.toList_none, List.cons_append, List.nil_append, C.g0, if_neg e1, C.g3, b4', x2, ld_i (t := 3) (ix_20 (show 2 * k < 20 by omega)) rfl, nI_clamp (show 2 * k < 2 ^ 31 by omega), h1, c1, if_true]
        refine second N f W (by omega) hW L0 (fun ax i hax hi hh => ?_)
        rcases hi with z | ⟨z1, z2⟩
        · exact L1 ax i hax z hh
        · subst z1
          subst z2
          exact absurd hh hnh
      · have hh0 : hd bs 0 k := by
          unfold hd
          rw [if_pos rfl]
          exact c1
        have nx : ∀ dd, dd = lI (rwx bs gr 0 k 3) → PW B X 126 53 [some (.ref m), some (.int gr), some (.int (nI N)), some (.int (nI k)), none, none, none, none, none, none, none, none] [] (rwh B h m (vp_updL (vp_updL (vp_updL (vp_updL f (4 * N) 1) (4 * N + 1) 0) (4 * N + 2) (-(bs k).2.1).toInt64) (4 * N + 3) dd)) Q := by
          intro dd hdd
          simp only [u_126_53, pm_O_some, pm_w_nil, pm_w_i, pm_w_l, pm_w_r, pm_w_n, pm_c_n, pm_c_i, pm_c_l, pm_c_r, pm_c_u, Nat.reduceAdd, Nat.reduceLeDiff, true_and, Option.toList_some, Option.toList_none, List.cons_append, List.nil_append, nI_1]
          refine second (N + 1) _ (ups W N (rwx bs gr 0 k)) (by omega) (hW.lay rfl rfl (by rw [iL, i_neg (by omega)]; rfl) hdd) (L0' N W 0 (by omega) hh0 L0) (fun ax i hax hi hh => ?_)
          rcases hi with z | ⟨z1, z2⟩
          · exact keepL (L1 ax i hax z hh)
          · subst z1
            subst z2
            exact ⟨N, by omega, fun j hj => by rw [ups_s]⟩
        by_cases cg : gr = 0
        · simp only [u_126_5, u_126_5n, u_126_6, u_126_9, u_126_12, u_126_12n, u_126_13, u_126_16, u_126_17, u_126_18, u_126_19, u_126_20, u_126_23, u_126_23n, u_126_24, u_126_25, u_126_26, u_126_27, u_126_27n, u_126_28, u_126_31, u_126_32, u_126_33, u_126_34, u_126_35, u_126_36, u_126_49, u_126_50, pm_O_some, pm_w_nil, pm_w_i, pm_w_l, pm_w_r, pm_w_n, pm_c_n, pm_c_i, pm_c_l, pm_c_r, pm_c_u, Nat.reduceAdd, Nat.reduceLeDiff, true_and, Option.toList_some, Option.toList_none, List.cons_append, List.nil_append, C.g0, if_neg e1, C.g3, C.g2, C.io, b4', b2', x2, ld_i (t := 3) (ix_20 (show 2 * k < 20 by omega)) rfl, nI_clamp (show 2 * k < 2 ^ 31 by omega), h1, c1, if_false, ld_i (t := 0) (ix_10 (show k < 10 by omega)) rfl, nI_clamp (show k < 2 ^ 31 by omega), y2, if_pos cg, z_lay v cc (show N < 20 by omega)]
          exact nx _ (by unfold rwx; rw [if_neg (by decide), if_neg (by decide), if_neg (by decide), if_pos cg]; rfl)
        · simp only [u_126_5, u_126_5n, u_126_6, u_126_9, u_126_12, u_126_12n, u_126_13, u_126_16, u_126_17, u_126_18, u_126_19, u_126_20, u_126_23, u_126_23n, u_126_24, u_126_25, u_126_26, u_126_27, u_126_27n, u_126_28, u_126_31, u_126_32, u_126_33, u_126_34, u_126_35, u_126_36, u_126_39, u_126_39n, u_126_40, u_126_43, u_126_44, u_126_45, u_126_46, u_126_49, u_126_50, pm_O_some, pm_w_nil, pm_w_i, pm_w_l, pm_w_r, pm_w_n, pm_c_n, pm_c_i, pm_c_l, pm_c_r, pm_c_u, Nat.reduceAdd, Nat.reduceLeDiff, true_and, Option.toList_some, Option.toList_none, List.cons_append, List.nil_append, C.g0, if_neg e1, C.g3, C.g2, C.g1, C.io, b4', b2', b1', x2, ld_i (t := 3) (ix_20 (show 2 * k < 20 by omega)) rfl, nI_clamp (show 2 * k < 2 ^ 31 by omega), h1, c1, if_false, ld_i (t := 0) (ix_10 (show k < 10 by omega)) rfl, nI_clamp (show k < 2 ^ 31 by omega), y1, y2, if_neg cg, z_lay v cc (show N < 20 by omega)]
          exact nx _ (by unfold rwx; rw [if_neg (by decide), if_neg (by decide), if_neg (by decide), if_neg cg, iL]; rfl)
  simp only [u_126_0, u_126_1, u_126_2, u_126_3, pm_O_some, pm_w_nil, pm_w_i, pm_w_l, pm_w_r, pm_w_n, pm_c_n, pm_c_i, pm_c_l, pm_c_r, pm_c_u, Nat.reduceAdd, Nat.reduceLeDiff, true_and, Option.toList_some, Option.toList_none, List.cons_append, List.nil_append]
  have := lay n 0 0 f0 (fun _ _ => 0) (by omega) (by omega) (fun r j hr hj => by omega) (fun r hr => by omega) (fun ax i _ hi => by omega)
  rw [show rwh B h m f0 = h from pm_set_id a12] at this
  exact this
theorem r_locked (so : SO n bs ln tx nr sz tm nd dy nl lm ll jk) (n1 : MI B h m n bs ln tx nr sz tm nd dy nl lm ll jk) (hQ : ∀ j k h', RK bs n (¬ (1 : Int32) = 0) j → RK bs n (¬ (0 : Int32) = 0) k → MI B h' m n bs ln tx nr sz tm nd dy nl lm ll jk → Frm B h h' m (m + 24) → Q (some (.int (if k < j then 1 else 0))) h') :
    PW B X 130 0 [some (.ref m)] [] h Q := by
  simp only [u_130_0, u_130_0n, u_130_1, u_130_2, pm_O_some, pm_w_nil, pm_w_i, pm_w_l, pm_w_r, pm_w_n, pm_c_n, pm_c_i, pm_c_l, pm_c_r, pm_c_u, Nat.reduceAdd, Nat.reduceLeDiff, true_and, Option.toList_some, Option.toList_none, List.cons_append, List.nil_append, n1.io]
  refine r_rank so n1 (fun j h1 r1 m1 F1 => ?_)
  simp only [u_130_5, u_130_5n, u_130_6, u_130_7, pm_O_some, pm_w_nil, pm_w_i, pm_w_l, pm_w_r, pm_w_n, pm_c_n, pm_c_i, pm_c_l, pm_c_r, pm_c_u, Nat.reduceAdd, Nat.reduceLeDiff, true_and, Option.toList_some, Option.toList_none, List.cons_append, List.nil_append, m1.io]
  refine r_rank so m1 (fun k h2 r2 m2 F2 => ?_)
  have l1 := RK_le r1
  have l2 := RK_le r2
  have := hQ j k h2 r1 r2 m2 (F1.trans F2)
  by_cases c : k < j
  · rw [if_pos c] at this
    have e1 : ¬ nI j ≤ nI k := nI_ge c (by omega)
    simp only [u_130_10, u_130_13, u_130_14, u_130_17, u_130_18, u_130_18_0, u_130_18_1, pm_O_some, pm_w_nil, pm_w_i, pm_w_l, pm_w_r, pm_w_n, pm_c_n, pm_c_i, pm_c_l, pm_c_r, pm_c_u, Nat.reduceAdd, Nat.reduceLeDiff, true_and, Option.toList_some, Option.toList_none, List.cons_append, List.nil_append, if_neg e1]
    exact this
  · rw [if_neg c] at this
    have e1 : nI j ≤ nI k := nI_le (by omega) (by omega)
    simp only [u_130_10, u_130_13, u_130_14, u_130_17, u_130_18, u_130_18_0, u_130_18_1, pm_O_some, pm_w_nil, pm_w_i, pm_w_l, pm_w_r, pm_w_n, pm_c_n, pm_c_i, pm_c_l, pm_c_r, pm_c_u, Nat.reduceAdd, Nat.reduceLeDiff, true_and, Option.toList_some, Option.toList_none, List.cons_append, List.nil_append, if_pos e1]
    exact this
end RKS

/-! THE LAW: its start, its loop. -/
section LST
variable {B : Nat} {X : pm_X} {h : pm_H} {Q : Option Value → pm_H → Prop} {a i : Nat} {bs : Nat → Bg} {tx sz lm ll : Nat → Nat} {tm : Nat → Nat → Tm} {dy : Nat → Int}
def bmL (a : Nat) : pm_H := [.inr (0, [.ref (a + 1), .int 0, .ref (a + 2), .ref (a + 3), .ref (a + 5), .ref (a + 11), .ref (a + 17), .ref (a + 22), .ref (a + 48), .ref (a + 53), .int 0, .int 0, .long 0, .ref (a + 69), .ref (a + 70), .int 0, .int 0, .int 0, .int (-1)]), .inl (4, 10, .inr (.inr (.inr (.inr (fun _ => none))))), .inr (1, [.long 0, .long 0, .int 0, .int 0]), .inr (2, [.ref (a + 4), .int 0, .int 0]), .inl (2, 200, .inl (fun _ => 0)), .inr (3, [.ref (a + 6), .ref (a + 7), .ref (a + 8), .ref (a + 9), .ref (a + 10), .int 0, .int 0]), .inl (2, 48, .inl (fun _ => 0)), .inl (0, 48, .inl (fun _ => 0)), .inl (0, 48, .inl (fun _ => 0)), .inl (0, 48, .inl (fun _ => 0)), .inl (0, 8, .inl (fun _ => 0)), .inr (3, [.ref (a + 12), .ref (a + 13), .ref (a + 14), .ref (a + 15), .ref (a + 16), .int 0, .int 0]), .inl (2, 48, .inl (fun _ => 0)), .inl (0, 48, .inl (fun _ => 0)), .inl (0, 48, .inl (fun _ => 0)), .inl (0, 48, .inl (fun _ => 0)), .inl (0, 8, .inl (fun _ => 0)), .inr (4, [.ref (a + 18), .ref (a + 20)]), .inr (5, [.ref (a + 19), .int 0]), .inl (1, 12, .inr (.inl (fun _ => 0))), .inr (5, [.ref (a + 21), .int 0]), .inl (1, 12, .inr (.inl (fun _ => 0))), .inr (6, [.ref (a + 17), .ref (a + 23), .ref (a + 33), .ref (a + 38), .ref (a + 43), .int (-1), .int (-1)]), .inr (7, [.ref (a + 24), .ref (a + 26), .ref (a + 28), .ref (a + 30), .ref (a + 32), .int 0]), .inr (5, [.ref (a + 25), .int 0]), .inl (1, 12, .inr (.inl (fun _ => 0))), .inr (5, [.ref (a + 27), .int 0]), .inl (1, 12, .inr (.inl (fun _ => 0))), .inr (5, [.ref (a + 29), .int 0]), .inl (1, 12, .inr (.inl (fun _ => 0))), .inr (5, [.ref (a + 31), .int 0]), .inl (1, 12, .inr (.inl (fun _ => 0))), .inl (1, 6, .inr (.inl (fun _ => 0))), .inr (8, [.int 0, .ref (a + 34), .ref (a + 36)]), .inr (5, [.ref (a + 35), .int 0]), .inl (1, 12, .inr (.inl (fun _ => 0))), .inr (5, [.ref (a + 37), .int 1]), .inl (1, 12, .inr (.inl (vp_updL (fun _ => 0) 0 1))), .inr (8, [.int 0, .ref (a + 39), .ref (a + 41)]), .inr (5, [.ref (a + 40), .int 0]), .inl (1, 12, .inr (.inl (fun _ => 0))), .inr (5, [.ref (a + 42), .int 1]), .inl (1, 12, .inr (.inl (vp_updL (fun _ => 0) 0 1))), .inr (8, [.int 0, .ref (a + 44), .ref (a + 46)]), .inr (5, [.ref (a + 45), .int 0]), .inl (1, 12, .inr (.inl (fun _ => 0))), .inr (5, [.ref (a + 47), .int 1]), .inl (1, 12, .inr (.inl (vp_updL (fun _ => 0) 0 1))), .inr (8, [.int 0, .ref (a + 49), .ref (a + 51)]), .inr (5, [.ref (a + 50), .int 0]), .inl (1, 12, .inr (.inl (fun _ => 0))), .inr (5, [.ref (a + 52), .int 1]), .inl (1, 12, .inr (.inl (vp_updL (fun _ => 0) 0 1))), .inl (5, 3, .inr (.inr (.inr (.inr (va_up (va_up (va_up (fun _ => none) 0 (some (a + 54))) 1 (some (a + 59))) 2 (some (a + 64))))))), .inr (8, [.int 0, .ref (a + 55), .ref (a + 57)]), .inr (5, [.ref (a + 56), .int 0]), .inl (1, 12, .inr (.inl (fun _ => 0))), .inr (5, [.ref (a + 58), .int 1]), .inl (1, 12, .inr (.inl (vp_updL (fun _ => 0) 0 1))), .inr (8, [.int 0, .ref (a + 60), .ref (a + 62)]), .inr (5, [.ref (a + 61), .int 0]), .inl (1, 12, .inr (.inl (fun _ => 0))), .inr (5, [.ref (a + 63), .int 1]), .inl (1, 12, .inr (.inl (vp_updL (fun _ => 0) 0 1))), .inr (8, [.int 0, .ref (a + 65), .ref (a + 67)]), .inr (5, [.ref (a + 66), .int 0]), .inl (1, 12, .inr (.inl (fun _ => 0))), .inr (5, [.ref (a + 68), .int 1]), .inl (1, 12, .inr (.inl (vp_updL (fun _ => 0) 0 1))), .inl (0, 12, .inl (fun _ => 0)), .inl (0, 12, .inl (fun _ => 0))]
theorem i_bmL (ha : a = B + h.length) : PW B X 0 0 [some (.ref a)] [] (h ++ [.inr (0, [.null, .int 0, .null, .null, .null, .null, .null, .null, .null, .null, .int 0, .int 0, .long 0, .null, .null, .int 0, .int 0, .int 0, .int 0])]) Q ↔ Q none (h ++ bmL a) := i_bm ha
theorem bm_at (ha : a = B + h.length) {hA : pm_H} (e : hA = h ++ bmL a) (k : Nat) : pm_at B hA (a + k) = (bmL a)[k]? := by
  subst e
  exact ap_at k ha
theorem bmL_sl : pm_sl (bmL a) = 999 := by
  simp only [bmL, pm_sl, List.map_cons, List.map_nil, pm_sz, List.sum_cons, List.sum_nil, List.length_cons, List.length_nil, Nat.reduceAdd, Nat.add_zero, Nat.zero_add]
theorem bm_len {hA : pm_H} (e : hA = h ++ bmL a) : hA.length = h.length + 71 ∧ pm_sl hA = pm_sl h + 999 := by
  subst e
  rw [List.length_append, pm_sl_app, bmL_sl]
  exact ⟨rfl, rfl⟩
theorem bm_cc {hA : pm_H} (ha : B = B + h.length) (e : hA = h ++ bmL B) : CC B hA 0 bs 0 tx 0 sz tm 0 dy 0 lm ll none := by
  have e0 : pm_at B hA B = some (.inr (0, [.ref (B + 1), .int 0, .ref (B + 2), .ref (B + 3), .ref (B + 5), .ref (B + 11), .ref (B + 17), .ref (B + 22), .ref (B + 48), .ref (B + 53), .int 0, .int 0, .long 0, .ref (B + 69), .ref (B + 70), .int 0, .int 0, .int 0, .int (-1)])) := (bm_at ha e 0).trans rfl
  have e1 : pm_at B hA (B + 1) = some (.inl (4, 10, .inr (.inr (.inr (.inr (fun _ => none)))))) := (bm_at ha e 1).trans rfl
  have e2 : pm_at B hA (B + 2) = some (.inr (1, [.long 0, .long 0, .int 0, .int 0])) := (bm_at ha e 2).trans rfl
  have e3 : pm_at B hA (B + 3) = some (.inr (2, [.ref (B + 4), .int 0, .int 0])) := (bm_at ha e 3).trans rfl
  have e4 : pm_at B hA (B + 4) = some (.inl (2, 200, .inl (fun _ => 0))) := (bm_at ha e 4).trans rfl
  have e5 : pm_at B hA (B + 5) = some (.inr (3, [.ref (B + 6), .ref (B + 7), .ref (B + 8), .ref (B + 9), .ref (B + 10), .int 0, .int 0])) := (bm_at ha e 5).trans rfl
  have e6 : pm_at B hA (B + 6) = some (.inl (2, 48, .inl (fun _ => 0))) := (bm_at ha e 6).trans rfl
  have e7 : pm_at B hA (B + 7) = some (.inl (0, 48, .inl (fun _ => 0))) := (bm_at ha e 7).trans rfl
  have e8 : pm_at B hA (B + 8) = some (.inl (0, 48, .inl (fun _ => 0))) := (bm_at ha e 8).trans rfl
  have e9 : pm_at B hA (B + 9) = some (.inl (0, 48, .inl (fun _ => 0))) := (bm_at ha e 9).trans rfl
  have e10 : pm_at B hA (B + 10) = some (.inl (0, 8, .inl (fun _ => 0))) := (bm_at ha e 10).trans rfl
  have e11 : pm_at B hA (B + 11) = some (.inr (3, [.ref (B + 12), .ref (B + 13), .ref (B + 14), .ref (B + 15), .ref (B + 16), .int 0, .int 0])) := (bm_at ha e 11).trans rfl
  have e12 : pm_at B hA (B + 12) = some (.inl (2, 48, .inl (fun _ => 0))) := (bm_at ha e 12).trans rfl
  have e13 : pm_at B hA (B + 13) = some (.inl (0, 48, .inl (fun _ => 0))) := (bm_at ha e 13).trans rfl
  have e14 : pm_at B hA (B + 14) = some (.inl (0, 48, .inl (fun _ => 0))) := (bm_at ha e 14).trans rfl
  have e15 : pm_at B hA (B + 15) = some (.inl (0, 48, .inl (fun _ => 0))) := (bm_at ha e 15).trans rfl
  have e16 : pm_at B hA (B + 16) = some (.inl (0, 8, .inl (fun _ => 0))) := (bm_at ha e 16).trans rfl
  have e17 : pm_at B hA (B + 17) = some (.inr (4, [.ref (B + 18), .ref (B + 20)])) := (bm_at ha e 17).trans rfl
  have e18 : pm_at B hA (B + 18) = some (.inr (5, [.ref (B + 19), .int 0])) := (bm_at ha e 18).trans rfl
  have e19 : pm_at B hA (B + 19) = some (.inl (1, 12, .inr (.inl (fun _ => 0)))) := (bm_at ha e 19).trans rfl
  have e20 : pm_at B hA (B + 20) = some (.inr (5, [.ref (B + 21), .int 0])) := (bm_at ha e 20).trans rfl
  have e21 : pm_at B hA (B + 21) = some (.inl (1, 12, .inr (.inl (fun _ => 0)))) := (bm_at ha e 21).trans rfl
  have e22 : pm_at B hA (B + 22) = some (.inr (6, [.ref (B + 17), .ref (B + 23), .ref (B + 33), .ref (B + 38), .ref (B + 43), .int (-1), .int (-1)])) := (bm_at ha e 22).trans rfl
  have e23 : pm_at B hA (B + 23) = some (.inr (7, [.ref (B + 24), .ref (B + 26), .ref (B + 28), .ref (B + 30), .ref (B + 32), .int 0])) := (bm_at ha e 23).trans rfl
  have e24 : pm_at B hA (B + 24) = some (.inr (5, [.ref (B + 25), .int 0])) := (bm_at ha e 24).trans rfl
  have e25 : pm_at B hA (B + 25) = some (.inl (1, 12, .inr (.inl (fun _ => 0)))) := (bm_at ha e 25).trans rfl
  have e26 : pm_at B hA (B + 26) = some (.inr (5, [.ref (B + 27), .int 0])) := (bm_at ha e 26).trans rfl
  have e27 : pm_at B hA (B + 27) = some (.inl (1, 12, .inr (.inl (fun _ => 0)))) := (bm_at ha e 27).trans rfl
  have e28 : pm_at B hA (B + 28) = some (.inr (5, [.ref (B + 29), .int 0])) := (bm_at ha e 28).trans rfl
  have e29 : pm_at B hA (B + 29) = some (.inl (1, 12, .inr (.inl (fun _ => 0)))) := (bm_at ha e 29).trans rfl
  have e30 : pm_at B hA (B + 30) = some (.inr (5, [.ref (B + 31), .int 0])) := (bm_at ha e 30).trans rfl
  have e31 : pm_at B hA (B + 31) = some (.inl (1, 12, .inr (.inl (fun _ => 0)))) := (bm_at ha e 31).trans rfl
  have e32 : pm_at B hA (B + 32) = some (.inl (1, 6, .inr (.inl (fun _ => 0)))) := (bm_at ha e 32).trans rfl
  have e33 : pm_at B hA (B + 33) = some (.inr (8, [.int 0, .ref (B + 34), .ref (B + 36)])) := (bm_at ha e 33).trans rfl
  have e34 : pm_at B hA (B + 34) = some (.inr (5, [.ref (B + 35), .int 0])) := (bm_at ha e 34).trans rfl
  have e35 : pm_at B hA (B + 35) = some (.inl (1, 12, .inr (.inl (fun _ => 0)))) := (bm_at ha e 35).trans rfl
  have e36 : pm_at B hA (B + 36) = some (.inr (5, [.ref (B + 37), .int 1])) := (bm_at ha e 36).trans rfl
  have e37 : pm_at B hA (B + 37) = some (.inl (1, 12, .inr (.inl (vp_updL (fun _ => 0) 0 1)))) := (bm_at ha e 37).trans rfl
  have e38 : pm_at B hA (B + 38) = some (.inr (8, [.int 0, .ref (B + 39), .ref (B + 41)])) := (bm_at ha e 38).trans rfl
  have e39 : pm_at B hA (B + 39) = some (.inr (5, [.ref (B + 40), .int 0])) := (bm_at ha e 39).trans rfl
  have e40 : pm_at B hA (B + 40) = some (.inl (1, 12, .inr (.inl (fun _ => 0)))) := (bm_at ha e 40).trans rfl
  have e41 : pm_at B hA (B + 41) = some (.inr (5, [.ref (B + 42), .int 1])) := (bm_at ha e 41).trans rfl
  have e42 : pm_at B hA (B + 42) = some (.inl (1, 12, .inr (.inl (vp_updL (fun _ => 0) 0 1)))) := (bm_at ha e 42).trans rfl
  have e43 : pm_at B hA (B + 43) = some (.inr (8, [.int 0, .ref (B + 44), .ref (B + 46)])) := (bm_at ha e 43).trans rfl
  have e44 : pm_at B hA (B + 44) = some (.inr (5, [.ref (B + 45), .int 0])) := (bm_at ha e 44).trans rfl
  have e45 : pm_at B hA (B + 45) = some (.inl (1, 12, .inr (.inl (fun _ => 0)))) := (bm_at ha e 45).trans rfl
  have e46 : pm_at B hA (B + 46) = some (.inr (5, [.ref (B + 47), .int 1])) := (bm_at ha e 46).trans rfl
  have e47 : pm_at B hA (B + 47) = some (.inl (1, 12, .inr (.inl (vp_updL (fun _ => 0) 0 1)))) := (bm_at ha e 47).trans rfl
  have e48 : pm_at B hA (B + 48) = some (.inr (8, [.int 0, .ref (B + 49), .ref (B + 51)])) := (bm_at ha e 48).trans rfl
  have e49 : pm_at B hA (B + 49) = some (.inr (5, [.ref (B + 50), .int 0])) := (bm_at ha e 49).trans rfl
  have e50 : pm_at B hA (B + 50) = some (.inl (1, 12, .inr (.inl (fun _ => 0)))) := (bm_at ha e 50).trans rfl
  have e51 : pm_at B hA (B + 51) = some (.inr (5, [.ref (B + 52), .int 1])) := (bm_at ha e 51).trans rfl
  have e52 : pm_at B hA (B + 52) = some (.inl (1, 12, .inr (.inl (vp_updL (fun _ => 0) 0 1)))) := (bm_at ha e 52).trans rfl
  have e53 : pm_at B hA (B + 53) = some (.inl (5, 3, .inr (.inr (.inr (.inr (va_up (va_up (va_up (fun _ => none) 0 (some (B + 54))) 1 (some (B + 59))) 2 (some (B + 64)))))))) := (bm_at ha e 53).trans rfl
  have e54 : pm_at B hA (B + 54) = some (.inr (8, [.int 0, .ref (B + 55), .ref (B + 57)])) := (bm_at ha e 54).trans rfl
  have e55 : pm_at B hA (B + 55) = some (.inr (5, [.ref (B + 56), .int 0])) := (bm_at ha e 55).trans rfl
  have e56 : pm_at B hA (B + 56) = some (.inl (1, 12, .inr (.inl (fun _ => 0)))) := (bm_at ha e 56).trans rfl
  have e57 : pm_at B hA (B + 57) = some (.inr (5, [.ref (B + 58), .int 1])) := (bm_at ha e 57).trans rfl
  have e58 : pm_at B hA (B + 58) = some (.inl (1, 12, .inr (.inl (vp_updL (fun _ => 0) 0 1)))) := (bm_at ha e 58).trans rfl
  have e59 : pm_at B hA (B + 59) = some (.inr (8, [.int 0, .ref (B + 60), .ref (B + 62)])) := (bm_at ha e 59).trans rfl
  have e60 : pm_at B hA (B + 60) = some (.inr (5, [.ref (B + 61), .int 0])) := (bm_at ha e 60).trans rfl
  have e61 : pm_at B hA (B + 61) = some (.inl (1, 12, .inr (.inl (fun _ => 0)))) := (bm_at ha e 61).trans rfl
  have e62 : pm_at B hA (B + 62) = some (.inr (5, [.ref (B + 63), .int 1])) := (bm_at ha e 62).trans rfl
  have e63 : pm_at B hA (B + 63) = some (.inl (1, 12, .inr (.inl (vp_updL (fun _ => 0) 0 1)))) := (bm_at ha e 63).trans rfl
  have e64 : pm_at B hA (B + 64) = some (.inr (8, [.int 0, .ref (B + 65), .ref (B + 67)])) := (bm_at ha e 64).trans rfl
  have e65 : pm_at B hA (B + 65) = some (.inr (5, [.ref (B + 66), .int 0])) := (bm_at ha e 65).trans rfl
  have e66 : pm_at B hA (B + 66) = some (.inl (1, 12, .inr (.inl (fun _ => 0)))) := (bm_at ha e 66).trans rfl
  have e67 : pm_at B hA (B + 67) = some (.inr (5, [.ref (B + 68), .int 1])) := (bm_at ha e 67).trans rfl
  have e68 : pm_at B hA (B + 68) = some (.inl (1, 12, .inr (.inl (vp_updL (fun _ => 0) 0 1)))) := (bm_at ha e 68).trans rfl
  have e69 : pm_at B hA (B + 69) = some (.inl (0, 12, .inl (fun _ => 0))) := (bm_at ha e 69).trans rfl
  have e70 : pm_at B hA (B + 70) = some (.inl (0, 12, .inl (fun _ => 0))) := (bm_at ha e 70).trans rfl
  refine ⟨⟨B + 5, B + 11, 0, 0, 0, -1, e0, Or.inl ⟨rfl, rfl⟩, ⟨by omega, ⟨_, e1, fun i hi => by omega⟩, fun i hi => by omega⟩, ⟨by omega, 0, _, e3, e4, fun i hi => by omega⟩, ⟨_, _, _, _, _, ⟨e5, e6, e7, e8, e9, e10⟩, by omega, fun k hk => by omega⟩, ⟨_, _, _, _, _, _, _, e11, e12, e13, e14, e15, e16⟩, ⟨by omega, _, _, e69, e70, fun i hi => by omega⟩, ⟨by omega, fun i hi => by omega, fun h => by omega⟩, Or.inl ⟨rfl, rfl⟩⟩, ⟨_, _, _, _, e2⟩, ⟨0, -1, 0, -1, e22, ⟨0, 0, 0, fun _ => 0, 0, 0, _, e23, (NatV.zero e24 e25), (NatV.zero e26 e27), (NatV.zero e28 e29), (NatV.zero e30 e31), e32, by omega, fun i hi => by omega⟩, ⟨0, 0, 1, e33, NatV.zero e34 e35, NatV.one e36 e37⟩, ⟨e38, NatV.zero e39 e40, NatV.one e41 e42⟩, ⟨e43, NatV.zero e44 e45, NatV.one e46 e47⟩, ?_, ?_, ⟨0, 0, e17, (NatV.zero e18 e19), (NatV.zero e20 e21)⟩⟩, ⟨0, 0, 1, e48, NatV.zero e49 e50, NatV.one e51 e52⟩, ⟨_, e53, rfl, rfl, rfl⟩, ⟨0, 0, 1, e54, NatV.zero e55 e56, NatV.one e57 e58⟩, ⟨0, 0, 1, e59, NatV.zero e60 e61, NatV.one e62 e63⟩, ⟨0, 0, 1, e64, NatV.zero e65 e66, NatV.one e67 e68⟩⟩
  · exact ⟨by decide +kernel, by decide +kernel⟩
  · exact ⟨by decide +kernel, by decide +kernel⟩
theorem lw_sw {n : Nat} {ln nr nd nl : Nat} {jk : Option (Nat × Nat)} {v : Int32} (hi : IXS X i) (S : LWS B h n bs ln tx nr sz tm nd dy nl lm ll jk) (nx : NXT B X i Q) : PW B X 146 33 [some (.ref X.1), some (.ref B), some (.ref (B + 71)), some (.int (nI i))] [.int v] h Q := by
  by_cases w0 : v = 0
  · subst w0
    rw [u_146_33_0]
    exact lw_0 hi S nx
  by_cases w1 : v = 1
  · subst w1
    rw [u_146_33_1]
    exact lw_1 hi S nx
  by_cases w2 : v = 2
  · subst w2
    rw [u_146_33_2]
    exact lw_2 hi S nx
  by_cases w3 : v = 3
  · subst w3
    rw [u_146_33_3]
    exact lw_3 hi S nx
  by_cases w4 : v = 4
  · subst w4
    rw [u_146_33_4]
    exact lw_4 hi S nx
  by_cases w5 : v = 5
  · subst w5
    rw [u_146_33_5]
    exact lw_5 hi S nx
  by_cases w6 : v = 6
  · subst w6
    rw [u_146_33_6]
    exact lw_6 hi S nx
  by_cases w7 : v = 7
  · subst w7
    rw [u_146_33_7]
    exact lw_7 hi S nx
  by_cases w8 : v = 8
  · subst w8
    rw [u_146_33_8]
    exact lw_8 hi S nx
  by_cases w9 : v = 9
  · subst w9
    rw [u_146_33_9]
    exact lw_9 hi S nx
  by_cases w10 : v = 10
  · subst w10
    rw [u_146_33_10]
    exact lw_10 hi S nx
  by_cases w11 : v = 11
  · subst w11
    rw [u_146_33_11]
    exact lw_11 hi S nx
  by_cases w12 : v = 12
  · subst w12
    rw [u_146_33_12]
    exact lw_12 hi S nx
  by_cases w13 : v = 13
  · subst w13
    rw [u_146_33_13]
    exact lw_13 hi S nx
  by_cases w14 : v = 14
  · subst w14
    rw [u_146_33_14]
    exact lw_14 hi S nx
  by_cases w15 : v = 15
  · subst w15
    rw [u_146_33_15]
    exact lw_15 hi S nx
  by_cases w16 : v = 16
  · subst w16
    rw [u_146_33_16]
    exact lw_16 hi S nx
  by_cases w17 : v = 17
  · subst w17
    rw [u_146_33_17]
    exact lw_17 hi S nx
  by_cases w18 : v = 18
  · subst w18
    rw [u_146_33_18]
    exact lw_18 hi S nx
  by_cases w19 : v = 19
  · subst w19
    rw [u_146_33_19]
    exact lw_19 hi S nx
  have hx : v.toInt < 0 ∨ 19 < v.toInt := by
    rw [← Int32.toInt_inj] at w0 w1 w2 w3 w4 w5 w6 w7 w8 w9 w10 w11 w12 w13 w14 w15 w16 w17 w18 w19
    change ¬ v.toInt = 0 at w0
    change ¬ v.toInt = 1 at w1
    change ¬ v.toInt = 2 at w2
    change ¬ v.toInt = 3 at w3
    change ¬ v.toInt = 4 at w4
    change ¬ v.toInt = 5 at w5
    change ¬ v.toInt = 6 at w6
    change ¬ v.toInt = 7 at w7
    change ¬ v.toInt = 8 at w8
    change ¬ v.toInt = 9 at w9
    change ¬ v.toInt = 10 at w10
    change ¬ v.toInt = 11 at w11
    change ¬ v.toInt = 12 at w12
    change ¬ v.toInt = 13 at w13
    change ¬ v.toInt = 14 at w14
    change ¬ v.toInt = 15 at w15
    change ¬ v.toInt = 16 at w16
    change ¬ v.toInt = 17 at w17
    change ¬ v.toInt = 18 at w18
    change ¬ v.toInt = 19 at w19
    omega
  rw [u_146_33_d hx]
  exact nx _ _ _ _ _ _ _ _ _ _ _ _ _ _ S
theorem lw_loop (hL : X.2.1 ≤ 3072) : ∀ d i h n bs ln tx nr sz tm nd dy nl lm ll jk, X.2.1 ≤ i + 6 * d → i ≤ 4000 → LWS B h n bs ln tx nr sz tm nd dy nl lm ll jk → PW B X 146 18 [some (.ref X.1), some (.ref B), some (.ref (B + 71)), some (.int (nI i))] [] h (fun r h' => r = some (.int 1) ∧ h'.length ≤ 600000 ∧ pm_sl h' ≤ 7302250) := by
  have eL : ∀ i, i ≤ 4000 → ((nI X.2.1 - 6 < nI i) ↔ X.2.1 < i + 6) := fun i hi => by
    rw [i_lt, i_sub (by rw [nI_toInt (by omega)]; show -2 ^ 31 ≤ (X.2.1 : Int) - 6; omega) (by rw [nI_toInt (by omega)]; show (X.2.1 : Int) - 6 < 2 ^ 31; omega), nI_toInt (by omega), nI_toInt (by omega)]
    show (X.2.1 : Int) - 6 < i ↔ _
    omega
  have out : ∀ i h n bs ln tx nr sz tm nd dy nl lm ll jk, i ≤ 4000 → X.2.1 < i + 6 → LWS B h n bs ln tx nr sz tm nd dy nl lm ll jk → PW B X 146 18 [some (.ref X.1), some (.ref B), some (.ref (B + 71)), some (.int (nI i))] [] h (fun r h' => r = some (.int 1) ∧ h'.length ≤ 600000 ∧ pm_sl h' ≤ 7302250) := by
    intro i h n bs ln tx nr sz tm nd dy nl lm ll jk hi hlt S
    have e1 : Int32.ofNat X.2.1 - 6 < nI i := (eL i hi).mpr hlt
    have nb : narrow .boolean (.int 1) = .int 1 := rfl
    simp only [u_146_18, u_146_19, u_146_19n, u_146_20, u_146_21, u_146_23, u_146_24, u_146_829, u_146_830, u_146_830_0, u_146_830_1, pm_O_some, pm_w_nil, pm_w_i, pm_w_l, pm_w_r, pm_w_n, pm_c_n, pm_c_i, pm_c_l, pm_c_r, pm_c_u, Nat.reduceAdd, Nat.reduceLeDiff, true_and, Option.toList_some, Option.toList_none, List.cons_append, List.nil_append, if_pos e1, nb]
    have hn := S.1.so.1.1
    have h1 := S.2.2.1
    have h2 := S.2.2.2
    exact ⟨by omega, by omega⟩
  intro d
  induction d with
  | zero =>
    intro i h n bs ln tx nr sz tm nd dy nl lm ll jk hd hi S
    exact out i h n bs ln tx nr sz tm nd dy nl lm ll jk hi (by omega) S
  | succ d ih =>
    intro i h n bs ln tx nr sz tm nd dy nl lm ll jk hd hi S
    by_cases c : X.2.1 < i + 6
    · exact out i h n bs ln tx nr sz tm nd dy nl lm ll jk hi c S
    · have e1 : ¬ Int32.ofNat X.2.1 - 6 < nI i := mt (eL i hi).mp c
      have hx0 : pm_ix (nI i) X.2.1 = true := pm_ix_of (by omega) (by omega)
      rw [u_146_18]
      simp only [u_146_19, u_146_19n, u_146_20, u_146_21, u_146_23, u_146_24, u_146_27, u_146_27n, u_146_28, u_146_29, u_146_30, u_146_32, pm_O_some, pm_w_nil, pm_w_i, pm_w_l, pm_w_r, pm_w_n, pm_c_n, pm_c_i, pm_c_l, pm_c_r, pm_c_u, Nat.reduceAdd, Nat.reduceLeDiff, true_and, Option.toList_some, Option.toList_none, List.cons_append, List.nil_append, if_neg e1, hx0]
      refine lw_sw ⟨by omega, pm_ix_of (by omega) (by omega), pm_ix_of (by omega) (by omega), pm_ix_of (by omega) (by omega), pm_ix_of (by omega) (by omega), pm_ix_of (by omega) (by omega)⟩ S (fun h' n bs ln tx nr sz tm nd dy nl lm ll jk S' => ?_)
      have e6 : nI i + 6 = nI (i + 6) := nI_add _ 6
      simp only [u_146_823, u_146_826, pm_O_some, pm_w_nil, pm_w_i, pm_w_l, pm_w_r, pm_w_n, pm_c_n, pm_c_i, pm_c_l, pm_c_r, pm_c_u, Nat.reduceAdd, Nat.reduceLeDiff, true_and, Option.toList_some, Option.toList_none, List.cons_append, List.nil_append, e6]
      exact ih (i + 6) h' n bs ln tx nr sz tm nd dy nl lm ll jk (by omega) (by omega) S'
theorem law_all (hL : X.2.1 ≤ 3072) : PW B X 146 0 [some (.ref X.1), none, none, none] [] [] (fun r h' => r = some (.int 1) ∧ h'.length ≤ 600000 ∧ pm_sl h' ≤ 7302250) := by
  have ha : B = B + ([] : pm_H).length := rfl
  simp only [u_146_0, u_146_3, u_146_3i, u_146_4, pm_O_some, pm_w_nil, pm_w_i, pm_w_l, pm_w_r, pm_w_n, pm_c_n, pm_c_i, pm_c_l, pm_c_r, pm_c_u, Nat.reduceAdd, Nat.reduceLeDiff, true_and, Option.toList_some, Option.toList_none, List.cons_append, List.nil_append, List.length_nil, Nat.add_zero]
  refine (i_bmL (h := []) ha).mpr ?_
  obtain ⟨hA, hAe⟩ : ∃ hA, hA = ([] : pm_H) ++ bmL B := ⟨_, rfl⟩
  rw [← hAe]
  obtain ⟨hl, hs⟩ := bm_len hAe
  rw [show ([] : pm_H).length = 0 from rfl] at hl
  rw [show pm_sl ([] : pm_H) = 0 from rfl] at hs
  have cc := bm_cc (bs := fun _ => bg0 0 0) (tx := fun _ => 0) (sz := fun _ => 0) (tm := fun _ _ => (0, 0, 0, 0)) (dy := fun _ => 0) (lm := fun _ => 0) (ll := fun _ => 0) ha hAe
  clear hAe
  have hm : B + 71 = B + hA.length := by rw [hl]
  simp only [u_146_7, u_146_7n, u_146_8, u_146_11, u_146_11i, u_146_12, pm_O_some, pm_w_nil, pm_w_i, pm_w_l, pm_w_r, pm_w_n, pm_c_n, pm_c_i, pm_c_l, pm_c_r, pm_c_u, Nat.reduceAdd, Nat.reduceLeDiff, true_and, Option.toList_some, Option.toList_none, List.cons_append, List.nil_append]
  rw [← hm]
  refine i_ref (bs := fun _ => bg0 0 0) (tx := fun _ => 0) (sz := fun _ => 0) (tm := fun _ _ => (0, 0, 0, 0)) (dy := fun _ => 0) (lm := fun _ => 0) (ll := fun _ => 0) hm (fun h' mi l1 s1 T => ?_)
  simp only [u_146_15, u_146_15n, u_146_16, u_146_17, pm_O_some, pm_w_nil, pm_w_i, pm_w_l, pm_w_r, pm_w_n, pm_c_n, pm_c_i, pm_c_l, pm_c_r, pm_c_u, Nat.reduceAdd, Nat.reduceLeDiff, true_and, Option.toList_some, Option.toList_none, List.cons_append, List.nil_append]
  refine lw_loop hL 600 0 h' 0 _ _ _ _ _ _ _ _ _ _ _ _ (by omega) (by omega) ⟨?_, mi, by omega, by omega⟩
  obtain ⟨⟨rs, rs2, lw, jh, jm, ra, a1, a2, ⟨b1, ⟨fb, b2, b3⟩, b4⟩, a4, a5, a6, a7, a8, a9⟩, n2⟩ := cc
  have w1 : (B + 5 ≤ rs ∧ rs ≤ B + 11) ∧ (B + 5 ≤ rs2 ∧ rs2 ≤ B + 11) := by rcases a2 with ⟨z1, z2⟩ | ⟨z1, z2⟩ <;> omega
  have F : Frx B hA h' (B + 71) (B + 95) := fun q hq => by
    rcases hq with z | z
    · exact T q z
    · unfold pm_at
      rw [if_neg (by omega), if_neg (by omega), List.getElem?_eq_none (by omega), List.getElem?_eq_none (by omega)]
  exact CC.fx ⟨⟨rs, rs2, lw, jh, jm, ra, a1, a2, ⟨b1, ⟨fb, b2, b3⟩, b4⟩, a4, a5, a6, a7, a8, a9⟩, n2⟩ F
end LST

/-! RULES OF 42.u-frac, an instruction each, written by ugen.py: do not edit. -/
section
variable {B : Nat} {X : pm_X} {lv : pm_L} {st : List Value} {h : pm_H} {Q : Option Value → pm_H → Prop} {v : Value} {x y : Int32} {z w : Int64} {a b : Nat}
variable {v0 v1 v2 v3 v4 v5 v6 v7 v8 v9 v10 v11 v12 v13 v14 v15 : Option Value} {q0 q1 q2 q3 q4 q5 : Int32} {p0 p1 p2 p3 p4 p5 : Int64} {r0 r1 r2 r3 r4 r5 : Nat}
-- 1 Differences_init
theorem u_1_0 : PW B X 1 0 [some (.ref a)] (st) h Q ↔ PW B X 1 1 [some (.ref a)] (.ref a :: st) h Q := PW_step rfl rfl rfl rfl
theorem u_1_0n : PW B X 1 0 [some .null] (st) h Q ↔ PW B X 1 1 [some .null] (.null :: st) h Q := PW_step rfl rfl rfl rfl
theorem u_1_1 : PW B X 1 1 lv (.ref a :: st) h Q ↔ (pm_w st ≤ 8 ∧ PW B X 1 4 lv (st) h Q) := PW_obj rfl rfl rfl
theorem u_1_4 : PW B X 1 4 lv ([]) h Q ↔ Q none h := PW_ret rfl rfl
-- 4 Scales_init
theorem u_4_0 : PW B X 4 0 [some (.ref a)] (st) h Q ↔ PW B X 4 1 [some (.ref a)] (.ref a :: st) h Q := PW_step rfl rfl rfl rfl
theorem u_4_0n : PW B X 4 0 [some .null] (st) h Q ↔ PW B X 4 1 [some .null] (.null :: st) h Q := PW_step rfl rfl rfl rfl
theorem u_4_1 : PW B X 4 1 lv (.ref a :: st) h Q ↔ (pm_w st ≤ 8 ∧ PW B X 4 4 lv (st) h Q) := PW_obj rfl rfl rfl
theorem u_4_4 : PW B X 4 4 [some (.ref a)] (st) h Q ↔ PW B X 4 5 [some (.ref a)] (.ref a :: st) h Q := PW_step rfl rfl rfl rfl
theorem u_4_4n : PW B X 4 4 [some .null] (st) h Q ↔ PW B X 4 5 [some .null] (.null :: st) h Q := PW_step rfl rfl rfl rfl
theorem u_4_5 : PW B X 4 5 lv (st) h Q ↔ PW B X 4 8 lv (.ref (B + h.length) :: st) (h ++ [.inr (5, [.null, .int 0])]) Q := PW_step rfl rfl rfl rfl
theorem u_4_8 : PW B X 4 8 lv (.ref a :: st) h Q ↔ PW B X 4 9 lv (.ref a :: .ref a :: st) h Q := PW_step rfl rfl rfl rfl
theorem u_4_8i : PW B X 4 8 lv (.int x :: st) h Q ↔ PW B X 4 9 lv (.int x :: .int x :: st) h Q := PW_step rfl rfl rfl rfl
theorem u_4_9 : PW B X 4 9 lv (.ref a :: st) h Q ↔ (pm_w st ≤ 8 ∧ PW B X 5 0 [some (.ref a)] [] h (fun r h' => PW B X 4 12 lv (r.toList ++ st) h' Q)) := PW_ci (y := 5) (as := []) (rest := st) rfl rfl rfl rfl rfl ⟨Nat.le_of_ble_eq_true rfl, Nat.le_of_ble_eq_true rfl, Nat.le_of_ble_eq_true rfl⟩
theorem u_4_12 : PW B X 4 12 lv (v :: .ref a :: st) h Q ↔ pm_O (pm_pf (pm_at B h a) 4 0 v) (fun e => PW B X 4 15 lv (st) (pm_set B h a e) Q) := PW_putf rfl rfl
theorem u_4_15 : PW B X 4 15 [some (.ref a)] (st) h Q ↔ PW B X 4 16 [some (.ref a)] (.ref a :: st) h Q := PW_step rfl rfl rfl rfl
theorem u_4_15n : PW B X 4 15 [some .null] (st) h Q ↔ PW B X 4 16 [some .null] (.null :: st) h Q := PW_step rfl rfl rfl rfl
theorem u_4_16 : PW B X 4 16 lv (st) h Q ↔ PW B X 4 19 lv (.ref (B + h.length) :: st) (h ++ [.inr (5, [.null, .int 0])]) Q := PW_step rfl rfl rfl rfl
theorem u_4_19 : PW B X 4 19 lv (.ref a :: st) h Q ↔ PW B X 4 20 lv (.ref a :: .ref a :: st) h Q := PW_step rfl rfl rfl rfl
theorem u_4_19i : PW B X 4 19 lv (.int x :: st) h Q ↔ PW B X 4 20 lv (.int x :: .int x :: st) h Q := PW_step rfl rfl rfl rfl
theorem u_4_20 : PW B X 4 20 lv (.ref a :: st) h Q ↔ (pm_w st ≤ 8 ∧ PW B X 5 0 [some (.ref a)] [] h (fun r h' => PW B X 4 23 lv (r.toList ++ st) h' Q)) := PW_ci (y := 5) (as := []) (rest := st) rfl rfl rfl rfl rfl ⟨Nat.le_of_ble_eq_true rfl, Nat.le_of_ble_eq_true rfl, Nat.le_of_ble_eq_true rfl⟩
theorem u_4_23 : PW B X 4 23 lv (v :: .ref a :: st) h Q ↔ pm_O (pm_pf (pm_at B h a) 4 1 v) (fun e => PW B X 4 26 lv (st) (pm_set B h a e) Q) := PW_putf rfl rfl
theorem u_4_26 : PW B X 4 26 lv ([]) h Q ↔ Q none h := PW_ret rfl rfl
-- 7 TermSum_init
theorem u_7_0 : PW B X 7 0 [some (.ref a)] (st) h Q ↔ PW B X 7 1 [some (.ref a)] (.ref a :: st) h Q := PW_step rfl rfl rfl rfl
theorem u_7_0n : PW B X 7 0 [some .null] (st) h Q ↔ PW B X 7 1 [some .null] (.null :: st) h Q := PW_step rfl rfl rfl rfl
theorem u_7_1 : PW B X 7 1 lv (.ref a :: st) h Q ↔ (pm_w st ≤ 8 ∧ PW B X 7 4 lv (st) h Q) := PW_obj rfl rfl rfl
theorem u_7_4 : PW B X 7 4 [some (.ref a)] (st) h Q ↔ PW B X 7 5 [some (.ref a)] (.ref a :: st) h Q := PW_step rfl rfl rfl rfl
theorem u_7_4n : PW B X 7 4 [some .null] (st) h Q ↔ PW B X 7 5 [some .null] (.null :: st) h Q := PW_step rfl rfl rfl rfl
theorem u_7_5 : PW B X 7 5 lv (st) h Q ↔ PW B X 7 8 lv (.ref (B + h.length) :: st) (h ++ [.inr (5, [.null, .int 0])]) Q := PW_step rfl rfl rfl rfl
theorem u_7_8 : PW B X 7 8 lv (.ref a :: st) h Q ↔ PW B X 7 9 lv (.ref a :: .ref a :: st) h Q := PW_step rfl rfl rfl rfl
theorem u_7_8i : PW B X 7 8 lv (.int x :: st) h Q ↔ PW B X 7 9 lv (.int x :: .int x :: st) h Q := PW_step rfl rfl rfl rfl
theorem u_7_9 : PW B X 7 9 lv (.ref a :: st) h Q ↔ (pm_w st ≤ 8 ∧ PW B X 5 0 [some (.ref a)] [] h (fun r h' => PW B X 7 12 lv (r.toList ++ st) h' Q)) := PW_ci (y := 5) (as := []) (rest := st) rfl rfl rfl rfl rfl ⟨Nat.le_of_ble_eq_true rfl, Nat.le_of_ble_eq_true rfl, Nat.le_of_ble_eq_true rfl⟩
theorem u_7_12 : PW B X 7 12 lv (v :: .ref a :: st) h Q ↔ pm_O (pm_pf (pm_at B h a) 7 0 v) (fun e => PW B X 7 15 lv (st) (pm_set B h a e) Q) := PW_putf rfl rfl
theorem u_7_15 : PW B X 7 15 [some (.ref a)] (st) h Q ↔ PW B X 7 16 [some (.ref a)] (.ref a :: st) h Q := PW_step rfl rfl rfl rfl
theorem u_7_15n : PW B X 7 15 [some .null] (st) h Q ↔ PW B X 7 16 [some .null] (.null :: st) h Q := PW_step rfl rfl rfl rfl
theorem u_7_16 : PW B X 7 16 lv (st) h Q ↔ PW B X 7 19 lv (.ref (B + h.length) :: st) (h ++ [.inr (5, [.null, .int 0])]) Q := PW_step rfl rfl rfl rfl
theorem u_7_19 : PW B X 7 19 lv (.ref a :: st) h Q ↔ PW B X 7 20 lv (.ref a :: .ref a :: st) h Q := PW_step rfl rfl rfl rfl
theorem u_7_19i : PW B X 7 19 lv (.int x :: st) h Q ↔ PW B X 7 20 lv (.int x :: .int x :: st) h Q := PW_step rfl rfl rfl rfl
theorem u_7_20 : PW B X 7 20 lv (.ref a :: st) h Q ↔ (pm_w st ≤ 8 ∧ PW B X 5 0 [some (.ref a)] [] h (fun r h' => PW B X 7 23 lv (r.toList ++ st) h' Q)) := PW_ci (y := 5) (as := []) (rest := st) rfl rfl rfl rfl rfl ⟨Nat.le_of_ble_eq_true rfl, Nat.le_of_ble_eq_true rfl, Nat.le_of_ble_eq_true rfl⟩
theorem u_7_23 : PW B X 7 23 lv (v :: .ref a :: st) h Q ↔ pm_O (pm_pf (pm_at B h a) 7 1 v) (fun e => PW B X 7 26 lv (st) (pm_set B h a e) Q) := PW_putf rfl rfl
theorem u_7_26 : PW B X 7 26 [some (.ref a)] (st) h Q ↔ PW B X 7 27 [some (.ref a)] (.ref a :: st) h Q := PW_step rfl rfl rfl rfl
theorem u_7_26n : PW B X 7 26 [some .null] (st) h Q ↔ PW B X 7 27 [some .null] (.null :: st) h Q := PW_step rfl rfl rfl rfl
theorem u_7_27 : PW B X 7 27 lv (st) h Q ↔ PW B X 7 30 lv (.ref (B + h.length) :: st) (h ++ [.inr (5, [.null, .int 0])]) Q := PW_step rfl rfl rfl rfl
theorem u_7_30 : PW B X 7 30 lv (.ref a :: st) h Q ↔ PW B X 7 31 lv (.ref a :: .ref a :: st) h Q := PW_step rfl rfl rfl rfl
theorem u_7_30i : PW B X 7 30 lv (.int x :: st) h Q ↔ PW B X 7 31 lv (.int x :: .int x :: st) h Q := PW_step rfl rfl rfl rfl
theorem u_7_31 : PW B X 7 31 lv (.ref a :: st) h Q ↔ (pm_w st ≤ 8 ∧ PW B X 5 0 [some (.ref a)] [] h (fun r h' => PW B X 7 34 lv (r.toList ++ st) h' Q)) := PW_ci (y := 5) (as := []) (rest := st) rfl rfl rfl rfl rfl ⟨Nat.le_of_ble_eq_true rfl, Nat.le_of_ble_eq_true rfl, Nat.le_of_ble_eq_true rfl⟩
theorem u_7_34 : PW B X 7 34 lv (v :: .ref a :: st) h Q ↔ pm_O (pm_pf (pm_at B h a) 7 2 v) (fun e => PW B X 7 37 lv (st) (pm_set B h a e) Q) := PW_putf rfl rfl
theorem u_7_37 : PW B X 7 37 [some (.ref a)] (st) h Q ↔ PW B X 7 38 [some (.ref a)] (.ref a :: st) h Q := PW_step rfl rfl rfl rfl
theorem u_7_37n : PW B X 7 37 [some .null] (st) h Q ↔ PW B X 7 38 [some .null] (.null :: st) h Q := PW_step rfl rfl rfl rfl
theorem u_7_38 : PW B X 7 38 lv (st) h Q ↔ PW B X 7 41 lv (.ref (B + h.length) :: st) (h ++ [.inr (5, [.null, .int 0])]) Q := PW_step rfl rfl rfl rfl
theorem u_7_41 : PW B X 7 41 lv (.ref a :: st) h Q ↔ PW B X 7 42 lv (.ref a :: .ref a :: st) h Q := PW_step rfl rfl rfl rfl
theorem u_7_41i : PW B X 7 41 lv (.int x :: st) h Q ↔ PW B X 7 42 lv (.int x :: .int x :: st) h Q := PW_step rfl rfl rfl rfl
theorem u_7_42 : PW B X 7 42 lv (.ref a :: st) h Q ↔ (pm_w st ≤ 8 ∧ PW B X 5 0 [some (.ref a)] [] h (fun r h' => PW B X 7 45 lv (r.toList ++ st) h' Q)) := PW_ci (y := 5) (as := []) (rest := st) rfl rfl rfl rfl rfl ⟨Nat.le_of_ble_eq_true rfl, Nat.le_of_ble_eq_true rfl, Nat.le_of_ble_eq_true rfl⟩
theorem u_7_45 : PW B X 7 45 lv (v :: .ref a :: st) h Q ↔ pm_O (pm_pf (pm_at B h a) 7 3 v) (fun e => PW B X 7 48 lv (st) (pm_set B h a e) Q) := PW_putf rfl rfl
theorem u_7_48 : PW B X 7 48 [some (.ref a)] (st) h Q ↔ PW B X 7 49 [some (.ref a)] (.ref a :: st) h Q := PW_step rfl rfl rfl rfl
theorem u_7_48n : PW B X 7 48 [some .null] (st) h Q ↔ PW B X 7 49 [some .null] (.null :: st) h Q := PW_step rfl rfl rfl rfl
theorem u_7_49 : PW B X 7 49 lv (st) h Q ↔ PW B X 7 51 lv (.int 6 :: st) h Q := PW_step rfl rfl rfl rfl
theorem u_7_51 : PW B X 7 51 lv (.int 6 :: st) h Q ↔ PW B X 7 53 lv (.ref (B + h.length) :: st) (h ++ [.inl (1, 6, .inr (.inl (fun _ => 0)))]) Q := PW_step rfl rfl rfl rfl
theorem u_7_53 : PW B X 7 53 lv (v :: .ref a :: st) h Q ↔ pm_O (pm_pf (pm_at B h a) 7 4 v) (fun e => PW B X 7 56 lv (st) (pm_set B h a e) Q) := PW_putf rfl rfl
theorem u_7_56 : PW B X 7 56 lv ([]) h Q ↔ Q none h := PW_ret rfl rfl
-- 8 Fraction_init
theorem u_8_0 : PW B X 8 0 [some (.ref a)] (st) h Q ↔ PW B X 8 1 [some (.ref a)] (.ref a :: st) h Q := PW_step rfl rfl rfl rfl
theorem u_8_0n : PW B X 8 0 [some .null] (st) h Q ↔ PW B X 8 1 [some .null] (.null :: st) h Q := PW_step rfl rfl rfl rfl
theorem u_8_1 : PW B X 8 1 lv (.ref a :: st) h Q ↔ (pm_w st ≤ 8 ∧ PW B X 8 4 lv (st) h Q) := PW_obj rfl rfl rfl
theorem u_8_4 : PW B X 8 4 [some (.ref a)] (st) h Q ↔ PW B X 8 5 [some (.ref a)] (.ref a :: st) h Q := PW_step rfl rfl rfl rfl
theorem u_8_4n : PW B X 8 4 [some .null] (st) h Q ↔ PW B X 8 5 [some .null] (.null :: st) h Q := PW_step rfl rfl rfl rfl
theorem u_8_5 : PW B X 8 5 lv (st) h Q ↔ PW B X 8 8 lv (.ref (B + h.length) :: st) (h ++ [.inr (5, [.null, .int 0])]) Q := PW_step rfl rfl rfl rfl
theorem u_8_8 : PW B X 8 8 lv (.ref a :: st) h Q ↔ PW B X 8 9 lv (.ref a :: .ref a :: st) h Q := PW_step rfl rfl rfl rfl
theorem u_8_8i : PW B X 8 8 lv (.int x :: st) h Q ↔ PW B X 8 9 lv (.int x :: .int x :: st) h Q := PW_step rfl rfl rfl rfl
theorem u_8_9 : PW B X 8 9 lv (.ref a :: st) h Q ↔ (pm_w st ≤ 8 ∧ PW B X 5 0 [some (.ref a)] [] h (fun r h' => PW B X 8 12 lv (r.toList ++ st) h' Q)) := PW_ci (y := 5) (as := []) (rest := st) rfl rfl rfl rfl rfl ⟨Nat.le_of_ble_eq_true rfl, Nat.le_of_ble_eq_true rfl, Nat.le_of_ble_eq_true rfl⟩
theorem u_8_12 : PW B X 8 12 lv (v :: .ref a :: st) h Q ↔ pm_O (pm_pf (pm_at B h a) 8 1 v) (fun e => PW B X 8 15 lv (st) (pm_set B h a e) Q) := PW_putf rfl rfl
theorem u_8_15 : PW B X 8 15 [some (.ref a)] (st) h Q ↔ PW B X 8 16 [some (.ref a)] (.ref a :: st) h Q := PW_step rfl rfl rfl rfl
theorem u_8_15n : PW B X 8 15 [some .null] (st) h Q ↔ PW B X 8 16 [some .null] (.null :: st) h Q := PW_step rfl rfl rfl rfl
theorem u_8_16 : PW B X 8 16 lv (st) h Q ↔ PW B X 8 19 lv (.ref (B + h.length) :: st) (h ++ [.inr (5, [.null, .int 0])]) Q := PW_step rfl rfl rfl rfl
theorem u_8_19 : PW B X 8 19 lv (.ref a :: st) h Q ↔ PW B X 8 20 lv (.ref a :: .ref a :: st) h Q := PW_step rfl rfl rfl rfl
theorem u_8_19i : PW B X 8 19 lv (.int x :: st) h Q ↔ PW B X 8 20 lv (.int x :: .int x :: st) h Q := PW_step rfl rfl rfl rfl
theorem u_8_20 : PW B X 8 20 lv (.ref a :: st) h Q ↔ (pm_w st ≤ 8 ∧ PW B X 5 0 [some (.ref a)] [] h (fun r h' => PW B X 8 23 lv (r.toList ++ st) h' Q)) := PW_ci (y := 5) (as := []) (rest := st) rfl rfl rfl rfl rfl ⟨Nat.le_of_ble_eq_true rfl, Nat.le_of_ble_eq_true rfl, Nat.le_of_ble_eq_true rfl⟩
theorem u_8_23 : PW B X 8 23 lv (v :: .ref a :: st) h Q ↔ pm_O (pm_pf (pm_at B h a) 8 2 v) (fun e => PW B X 8 26 lv (st) (pm_set B h a e) Q) := PW_putf rfl rfl
theorem u_8_26 : PW B X 8 26 [some (.ref a)] (st) h Q ↔ PW B X 8 27 [some (.ref a)] (.ref a :: st) h Q := PW_step rfl rfl rfl rfl
theorem u_8_26n : PW B X 8 26 [some .null] (st) h Q ↔ PW B X 8 27 [some .null] (.null :: st) h Q := PW_step rfl rfl rfl rfl
theorem u_8_27 : PW B X 8 27 lv (.ref a :: st) h Q ↔ pm_O (pm_gf (pm_at B h a) 8 2) (fun v => PW B X 8 30 lv (v :: st) h Q) := PW_getf rfl rfl
theorem u_8_30 : PW B X 8 30 lv (st) h Q ↔ PW B X 8 31 lv (.long 1 :: st) h Q := PW_step rfl rfl rfl rfl
theorem u_8_31 : PW B X 8 31 lv (.long p0 :: .ref a :: st) h Q ↔ (pm_w st ≤ 8 ∧ pm_io B h a 5 = true ∧ PW B X 9 0 [some (.ref a), some (.long p0), none, none, none, none] [] h (fun r h' => PW B X 8 34 lv (r.toList ++ st) h' Q)) := PW_cv (y := 9) (as := [.long p0]) (rest := st) rfl rfl rfl rfl rfl ⟨Nat.le_of_ble_eq_true rfl, Nat.le_of_ble_eq_true rfl, Nat.le_of_ble_eq_true rfl⟩
theorem u_8_34 : PW B X 8 34 lv ([]) h Q ↔ Q none h := PW_ret rfl rfl
-- 13 Bearing_init
theorem u_13_0 : PW B X 13 0 [some (.ref a), v1, v2, v3] (st) h Q ↔ PW B X 13 1 [some (.ref a), v1, v2, v3] (.ref a :: st) h Q := PW_step rfl rfl rfl rfl
theorem u_13_0n : PW B X 13 0 [some .null, v1, v2, v3] (st) h Q ↔ PW B X 13 1 [some .null, v1, v2, v3] (.null :: st) h Q := PW_step rfl rfl rfl rfl
theorem u_13_1 : PW B X 13 1 lv (.ref a :: st) h Q ↔ (pm_w st ≤ 8 ∧ PW B X 13 4 lv (st) h Q) := PW_obj rfl rfl rfl
theorem u_13_4 : PW B X 13 4 [some (.ref a), v1, v2, v3] (st) h Q ↔ PW B X 13 5 [some (.ref a), v1, v2, v3] (.ref a :: st) h Q := PW_step rfl rfl rfl rfl
theorem u_13_4n : PW B X 13 4 [some .null, v1, v2, v3] (st) h Q ↔ PW B X 13 5 [some .null, v1, v2, v3] (.null :: st) h Q := PW_step rfl rfl rfl rfl
theorem u_13_5 : PW B X 13 5 lv (st) h Q ↔ PW B X 13 7 lv (.int 24 :: st) h Q := PW_step rfl rfl rfl rfl
theorem u_13_7 : PW B X 13 7 lv (.int 24 :: st) h Q ↔ PW B X 13 9 lv (.ref (B + h.length) :: st) (h ++ [.inl (0, 24, .inl (fun _ => 0))]) Q := PW_step rfl rfl rfl rfl
theorem u_13_9 : PW B X 13 9 lv (v :: .ref a :: st) h Q ↔ pm_O (pm_pf (pm_at B h a) 9 4 v) (fun e => PW B X 13 12 lv (st) (pm_set B h a e) Q) := PW_putf rfl rfl
theorem u_13_12 : PW B X 13 12 [some (.ref a), v1, v2, v3] (st) h Q ↔ PW B X 13 13 [some (.ref a), v1, v2, v3] (.ref a :: st) h Q := PW_step rfl rfl rfl rfl
theorem u_13_12n : PW B X 13 12 [some .null, v1, v2, v3] (st) h Q ↔ PW B X 13 13 [some .null, v1, v2, v3] (.null :: st) h Q := PW_step rfl rfl rfl rfl
theorem u_13_13 : PW B X 13 13 lv (st) h Q ↔ PW B X 13 15 lv (.int 24 :: st) h Q := PW_step rfl rfl rfl rfl
theorem u_13_15 : PW B X 13 15 lv (.int 24 :: st) h Q ↔ PW B X 13 17 lv (.ref (B + h.length) :: st) (h ++ [.inl (0, 24, .inl (fun _ => 0))]) Q := PW_step rfl rfl rfl rfl
theorem u_13_17 : PW B X 13 17 lv (v :: .ref a :: st) h Q ↔ pm_O (pm_pf (pm_at B h a) 9 5 v) (fun e => PW B X 13 20 lv (st) (pm_set B h a e) Q) := PW_putf rfl rfl
theorem u_13_20 : PW B X 13 20 [some (.ref a), v1, v2, v3] (st) h Q ↔ PW B X 13 21 [some (.ref a), v1, v2, v3] (.ref a :: st) h Q := PW_step rfl rfl rfl rfl
theorem u_13_20n : PW B X 13 20 [some .null, v1, v2, v3] (st) h Q ↔ PW B X 13 21 [some .null, v1, v2, v3] (.null :: st) h Q := PW_step rfl rfl rfl rfl
theorem u_13_21 : PW B X 13 21 lv (st) h Q ↔ PW B X 13 24 lv (.ref (B + h.length) :: st) (h ++ [.inr (8, [.int 0, .null, .null])]) Q := PW_step rfl rfl rfl rfl
theorem u_13_24 : PW B X 13 24 lv (.ref a :: st) h Q ↔ PW B X 13 25 lv (.ref a :: .ref a :: st) h Q := PW_step rfl rfl rfl rfl
theorem u_13_24i : PW B X 13 24 lv (.int x :: st) h Q ↔ PW B X 13 25 lv (.int x :: .int x :: st) h Q := PW_step rfl rfl rfl rfl
theorem u_13_25 : PW B X 13 25 lv (.ref a :: st) h Q ↔ (pm_w st ≤ 8 ∧ PW B X 8 0 [some (.ref a)] [] h (fun r h' => PW B X 13 28 lv (r.toList ++ st) h' Q)) := PW_ci (y := 8) (as := []) (rest := st) rfl rfl rfl rfl rfl ⟨Nat.le_of_ble_eq_true rfl, Nat.le_of_ble_eq_true rfl, Nat.le_of_ble_eq_true rfl⟩
theorem u_13_28 : PW B X 13 28 lv (v :: .ref a :: st) h Q ↔ pm_O (pm_pf (pm_at B h a) 9 9 v) (fun e => PW B X 13 31 lv (st) (pm_set B h a e) Q) := PW_putf rfl rfl
theorem u_13_31 : PW B X 13 31 [some (.ref a), v1, v2, v3] (st) h Q ↔ PW B X 13 32 [some (.ref a), v1, v2, v3] (.ref a :: st) h Q := PW_step rfl rfl rfl rfl
theorem u_13_31n : PW B X 13 31 [some .null, v1, v2, v3] (st) h Q ↔ PW B X 13 32 [some .null, v1, v2, v3] (.null :: st) h Q := PW_step rfl rfl rfl rfl
theorem u_13_32 : PW B X 13 32 [v0, some (.int x), v2, v3] (st) h Q ↔ PW B X 13 33 [v0, some (.int x), v2, v3] (.int x :: st) h Q := PW_step rfl rfl rfl rfl
theorem u_13_33 : PW B X 13 33 lv (v :: .ref a :: st) h Q ↔ pm_O (pm_pf (pm_at B h a) 9 0 v) (fun e => PW B X 13 36 lv (st) (pm_set B h a e) Q) := PW_putf rfl rfl
theorem u_13_36 : PW B X 13 36 [some (.ref a), v1, v2, v3] (st) h Q ↔ PW B X 13 37 [some (.ref a), v1, v2, v3] (.ref a :: st) h Q := PW_step rfl rfl rfl rfl
theorem u_13_36n : PW B X 13 36 [some .null, v1, v2, v3] (st) h Q ↔ PW B X 13 37 [some .null, v1, v2, v3] (.null :: st) h Q := PW_step rfl rfl rfl rfl
theorem u_13_37 : PW B X 13 37 [v0, v1, some (.int x), v3] (st) h Q ↔ PW B X 13 38 [v0, v1, some (.int x), v3] (.int x :: st) h Q := PW_step rfl rfl rfl rfl
theorem u_13_38 : PW B X 13 38 lv (v :: .ref a :: st) h Q ↔ pm_O (pm_pf (pm_at B h a) 9 1 v) (fun e => PW B X 13 41 lv (st) (pm_set B h a e) Q) := PW_putf rfl rfl
theorem u_13_41 : PW B X 13 41 lv (st) h Q ↔ PW B X 13 42 lv (.int 0 :: st) h Q := PW_step rfl rfl rfl rfl
theorem u_13_42 : PW B X 13 42 [v0, v1, v2, v3] (.int x :: st) h Q ↔ PW B X 13 43 [v0, v1, pm_c v2, some (.int x)] (st) h Q := PW_step rfl rfl rfl rfl
theorem u_13_43 : PW B X 13 43 [v0, v1, v2, some (.int x)] (st) h Q ↔ PW B X 13 44 [v0, v1, v2, some (.int x)] (.int x :: st) h Q := PW_step rfl rfl rfl rfl
theorem u_13_44 : PW B X 13 44 [some (.ref a), v1, v2, v3] (st) h Q ↔ PW B X 13 45 [some (.ref a), v1, v2, v3] (.ref a :: st) h Q := PW_step rfl rfl rfl rfl
theorem u_13_44n : PW B X 13 44 [some .null, v1, v2, v3] (st) h Q ↔ PW B X 13 45 [some .null, v1, v2, v3] (.null :: st) h Q := PW_step rfl rfl rfl rfl
theorem u_13_45 : PW B X 13 45 lv (.ref a :: st) h Q ↔ pm_O (pm_gf (pm_at B h a) 9 5) (fun v => PW B X 13 48 lv (v :: st) h Q) := PW_getf rfl rfl
theorem u_13_48 : PW B X 13 48 lv (.ref a :: st) h Q ↔ pm_O (pm_len (pm_at B h a)) (fun v => PW B X 13 49 lv (v :: st) h Q) := PW_alen rfl rfl
theorem u_13_49 : PW B X 13 49 lv (.int y :: .int x :: st) h Q ↔ (if y ≤ x then PW B X 13 65 lv (st) h Q else PW B X 13 52 lv (st) h Q) := PW_icmp rfl rfl pm_c_ge
theorem u_13_52 : PW B X 13 52 [some (.ref a), v1, v2, v3] (st) h Q ↔ PW B X 13 53 [some (.ref a), v1, v2, v3] (.ref a :: st) h Q := PW_step rfl rfl rfl rfl
theorem u_13_52n : PW B X 13 52 [some .null, v1, v2, v3] (st) h Q ↔ PW B X 13 53 [some .null, v1, v2, v3] (.null :: st) h Q := PW_step rfl rfl rfl rfl
theorem u_13_53 : PW B X 13 53 lv (.ref a :: st) h Q ↔ pm_O (pm_gf (pm_at B h a) 9 5) (fun v => PW B X 13 56 lv (v :: st) h Q) := PW_getf rfl rfl
theorem u_13_56 : PW B X 13 56 [v0, v1, v2, some (.int x)] (st) h Q ↔ PW B X 13 57 [v0, v1, v2, some (.int x)] (.int x :: st) h Q := PW_step rfl rfl rfl rfl
theorem u_13_57 : PW B X 13 57 lv (st) h Q ↔ PW B X 13 58 lv (.int 1 :: st) h Q := PW_step rfl rfl rfl rfl
theorem u_13_58 : PW B X 13 58 lv (.int y :: .int x :: .ref a :: st) h Q ↔ pm_O (pm_sti 0 (pm_at B h a) x y) (fun e => PW B X 13 59 lv (st) (pm_set B h a e) Q) := PW_iast rfl
theorem u_13_59 : PW B X 13 59 [v0, v1, v2, some (.int x)] (st) h Q ↔ PW B X 13 62 [v0, v1, pm_c v2, some (.int (x + 1))] (st) h Q := PW_step rfl rfl rfl rfl
theorem u_13_62 : PW B X 13 62 lv (st) h Q ↔ PW B X 13 43 lv (st) h Q := PW_step rfl rfl rfl rfl
theorem u_13_65 : PW B X 13 65 lv ([]) h Q ↔ Q none h := PW_ret rfl rfl
-- 37 Fraction_put
theorem u_37_0 : PW B X 37 0 [v0, v1, v2, some (.long z), v4, v5, v6] (st) h Q ↔ PW B X 37 1 [v0, v1, v2, some (.long z), v4, v5, v6] (.long z :: st) h Q := PW_step rfl rfl rfl rfl
theorem u_37_1 : PW B X 37 1 [v0, some (.long z), v2, v3, v4, v5, v6] (st) h Q ↔ PW B X 37 2 [v0, some (.long z), v2, v3, v4, v5, v6] (.long z :: st) h Q := PW_step rfl rfl rfl rfl
theorem u_37_2 : PW B X 37 2 lv (.long z :: st) h Q ↔ (pm_w st ≤ 8 ∧ PW B X 37 5 lv (.long (if 0 < z then z else -z) :: st) h Q) := PW_math rfl rfl rfl rfl
theorem u_37_5 : PW B X 37 5 lv (.long p1 :: .long p0 :: st) h Q ↔ (pm_w st ≤ 8 ∧ PW B X 38 0 [some (.long p0), none, some (.long p1), none, none, none, none, none, none, none, none] [] h (fun r h' => PW B X 37 8 lv (r.toList ++ st) h' Q)) := PW_cs (y := 38) (as := [.long p0, .long p1]) (rest := st) rfl rfl rfl rfl rfl ⟨Nat.le_of_ble_eq_true rfl, Nat.le_of_ble_eq_true rfl, Nat.le_of_ble_eq_true rfl⟩
theorem u_37_8 : PW B X 37 8 [v0, v1, v2, v3, v4, v5, v6] (.long z :: st) h Q ↔ PW B X 37 10 [v0, v1, v2, v3, pm_c v4, some (.long z), none] (st) h Q := PW_step rfl rfl rfl rfl
theorem u_37_10 : PW B X 37 10 [v0, v1, v2, v3, v4, some (.long z), v6] (st) h Q ↔ PW B X 37 12 [v0, v1, v2, v3, v4, some (.long z), v6] (.long z :: st) h Q := PW_step rfl rfl rfl rfl
theorem u_37_12 : PW B X 37 12 lv (st) h Q ↔ PW B X 37 13 lv (.long 0 :: st) h Q := PW_step rfl rfl rfl rfl
theorem u_37_13 : PW B X 37 13 lv (.long w :: .long z :: st) h Q ↔ PW B X 37 14 lv (.int (lg_cmp z w) :: st) h Q := PW_step rfl rfl rfl rfl
theorem u_37_14 : PW B X 37 14 lv (.int x :: st) h Q ↔ (if 0 < x then PW B X 37 18 lv (st) h Q else PW B X 37 17 lv (st) h Q) := PW_if rfl rfl pm_c_gt
theorem u_37_17 : PW B X 37 17 lv ([]) h Q ↔ Q none h := PW_ret rfl rfl
theorem u_37_18 : PW B X 37 18 [some (.ref a), v1, v2, v3, v4, v5, v6] (st) h Q ↔ PW B X 37 19 [some (.ref a), v1, v2, v3, v4, v5, v6] (.ref a :: st) h Q := PW_step rfl rfl rfl rfl
theorem u_37_18n : PW B X 37 18 [some .null, v1, v2, v3, v4, v5, v6] (st) h Q ↔ PW B X 37 19 [some .null, v1, v2, v3, v4, v5, v6] (.null :: st) h Q := PW_step rfl rfl rfl rfl
theorem u_37_19 : PW B X 37 19 [v0, some (.long z), v2, v3, v4, v5, v6] (st) h Q ↔ PW B X 37 20 [v0, some (.long z), v2, v3, v4, v5, v6] (.long z :: st) h Q := PW_step rfl rfl rfl rfl
theorem u_37_20 : PW B X 37 20 lv (.long p0 :: st) h Q ↔ (pm_w st ≤ 8 ∧ PW B X 39 0 [some (.long p0), none] [] h (fun r h' => PW B X 37 23 lv (r.toList ++ st) h' Q)) := PW_cs (y := 39) (as := [.long p0]) (rest := st) rfl rfl rfl rfl rfl ⟨Nat.le_of_ble_eq_true rfl, Nat.le_of_ble_eq_true rfl, Nat.le_of_ble_eq_true rfl⟩
theorem u_37_23 : PW B X 37 23 lv (v :: .ref a :: st) h Q ↔ pm_O (pm_pf (pm_at B h a) 8 0 v) (fun e => PW B X 37 26 lv (st) (pm_set B h a e) Q) := PW_putf rfl rfl
theorem u_37_26 : PW B X 37 26 [some (.ref a), v1, v2, v3, v4, v5, v6] (st) h Q ↔ PW B X 37 27 [some (.ref a), v1, v2, v3, v4, v5, v6] (.ref a :: st) h Q := PW_step rfl rfl rfl rfl
theorem u_37_26n : PW B X 37 26 [some .null, v1, v2, v3, v4, v5, v6] (st) h Q ↔ PW B X 37 27 [some .null, v1, v2, v3, v4, v5, v6] (.null :: st) h Q := PW_step rfl rfl rfl rfl
theorem u_37_27 : PW B X 37 27 lv (.ref a :: st) h Q ↔ pm_O (pm_gf (pm_at B h a) 8 1) (fun v => PW B X 37 30 lv (v :: st) h Q) := PW_getf rfl rfl
theorem u_37_30 : PW B X 37 30 [v0, some (.long z), v2, v3, v4, v5, v6] (st) h Q ↔ PW B X 37 31 [v0, some (.long z), v2, v3, v4, v5, v6] (.long z :: st) h Q := PW_step rfl rfl rfl rfl
theorem u_37_31 : PW B X 37 31 lv (.long z :: st) h Q ↔ (pm_w st ≤ 8 ∧ PW B X 37 34 lv (.long (if 0 < z then z else -z) :: st) h Q) := PW_math rfl rfl rfl rfl
theorem u_37_34 : PW B X 37 34 [v0, v1, v2, v3, v4, some (.long z), v6] (st) h Q ↔ PW B X 37 36 [v0, v1, v2, v3, v4, some (.long z), v6] (.long z :: st) h Q := PW_step rfl rfl rfl rfl
theorem u_37_36 : PW B X 37 36 lv (.long w :: .long z :: st) h Q ↔ (¬ w = 0 ∧ PW B X 37 37 lv (.long (z / w) :: st) h Q) := PW_ldiv rfl
theorem u_37_37 : PW B X 37 37 lv (.long p0 :: .ref a :: st) h Q ↔ (pm_w st ≤ 8 ∧ pm_io B h a 5 = true ∧ PW B X 9 0 [some (.ref a), some (.long p0), none, none, none, none] [] h (fun r h' => PW B X 37 40 lv (r.toList ++ st) h' Q)) := PW_cv (y := 9) (as := [.long p0]) (rest := st) rfl rfl rfl rfl rfl ⟨Nat.le_of_ble_eq_true rfl, Nat.le_of_ble_eq_true rfl, Nat.le_of_ble_eq_true rfl⟩
theorem u_37_40 : PW B X 37 40 [some (.ref a), v1, v2, v3, v4, v5, v6] (st) h Q ↔ PW B X 37 41 [some (.ref a), v1, v2, v3, v4, v5, v6] (.ref a :: st) h Q := PW_step rfl rfl rfl rfl
theorem u_37_40n : PW B X 37 40 [some .null, v1, v2, v3, v4, v5, v6] (st) h Q ↔ PW B X 37 41 [some .null, v1, v2, v3, v4, v5, v6] (.null :: st) h Q := PW_step rfl rfl rfl rfl
theorem u_37_41 : PW B X 37 41 lv (.ref a :: st) h Q ↔ pm_O (pm_gf (pm_at B h a) 8 2) (fun v => PW B X 37 44 lv (v :: st) h Q) := PW_getf rfl rfl
theorem u_37_44 : PW B X 37 44 [v0, v1, v2, some (.long z), v4, v5, v6] (st) h Q ↔ PW B X 37 45 [v0, v1, v2, some (.long z), v4, v5, v6] (.long z :: st) h Q := PW_step rfl rfl rfl rfl
theorem u_37_45 : PW B X 37 45 [v0, v1, v2, v3, v4, some (.long z), v6] (st) h Q ↔ PW B X 37 47 [v0, v1, v2, v3, v4, some (.long z), v6] (.long z :: st) h Q := PW_step rfl rfl rfl rfl
theorem u_37_47 : PW B X 37 47 lv (.long w :: .long z :: st) h Q ↔ (¬ w = 0 ∧ PW B X 37 48 lv (.long (z / w) :: st) h Q) := PW_ldiv rfl
theorem u_37_48 : PW B X 37 48 lv (.long p0 :: .ref a :: st) h Q ↔ (pm_w st ≤ 8 ∧ pm_io B h a 5 = true ∧ PW B X 9 0 [some (.ref a), some (.long p0), none, none, none, none] [] h (fun r h' => PW B X 37 51 lv (r.toList ++ st) h' Q)) := PW_cv (y := 9) (as := [.long p0]) (rest := st) rfl rfl rfl rfl rfl ⟨Nat.le_of_ble_eq_true rfl, Nat.le_of_ble_eq_true rfl, Nat.le_of_ble_eq_true rfl⟩
theorem u_37_51 : PW B X 37 51 lv ([]) h Q ↔ Q none h := PW_ret rfl rfl
-- 41 TermSum_clear
theorem u_41_0 : PW B X 41 0 [some (.ref a)] (st) h Q ↔ PW B X 41 1 [some (.ref a)] (.ref a :: st) h Q := PW_step rfl rfl rfl rfl
theorem u_41_0n : PW B X 41 0 [some .null] (st) h Q ↔ PW B X 41 1 [some .null] (.null :: st) h Q := PW_step rfl rfl rfl rfl
theorem u_41_1 : PW B X 41 1 lv (.ref a :: st) h Q ↔ pm_O (pm_gf (pm_at B h a) 7 0) (fun v => PW B X 41 4 lv (v :: st) h Q) := PW_getf rfl rfl
theorem u_41_4 : PW B X 41 4 lv (st) h Q ↔ PW B X 41 5 lv (.long 0 :: st) h Q := PW_step rfl rfl rfl rfl
theorem u_41_5 : PW B X 41 5 lv (.long p0 :: .ref a :: st) h Q ↔ (pm_w st ≤ 8 ∧ pm_io B h a 5 = true ∧ PW B X 9 0 [some (.ref a), some (.long p0), none, none, none, none] [] h (fun r h' => PW B X 41 8 lv (r.toList ++ st) h' Q)) := PW_cv (y := 9) (as := [.long p0]) (rest := st) rfl rfl rfl rfl rfl ⟨Nat.le_of_ble_eq_true rfl, Nat.le_of_ble_eq_true rfl, Nat.le_of_ble_eq_true rfl⟩
theorem u_41_8 : PW B X 41 8 [some (.ref a)] (st) h Q ↔ PW B X 41 9 [some (.ref a)] (.ref a :: st) h Q := PW_step rfl rfl rfl rfl
theorem u_41_8n : PW B X 41 8 [some .null] (st) h Q ↔ PW B X 41 9 [some .null] (.null :: st) h Q := PW_step rfl rfl rfl rfl
theorem u_41_9 : PW B X 41 9 lv (.ref a :: st) h Q ↔ pm_O (pm_gf (pm_at B h a) 7 1) (fun v => PW B X 41 12 lv (v :: st) h Q) := PW_getf rfl rfl
theorem u_41_12 : PW B X 41 12 lv (st) h Q ↔ PW B X 41 13 lv (.long 0 :: st) h Q := PW_step rfl rfl rfl rfl
theorem u_41_13 : PW B X 41 13 lv (.long p0 :: .ref a :: st) h Q ↔ (pm_w st ≤ 8 ∧ pm_io B h a 5 = true ∧ PW B X 9 0 [some (.ref a), some (.long p0), none, none, none, none] [] h (fun r h' => PW B X 41 16 lv (r.toList ++ st) h' Q)) := PW_cv (y := 9) (as := [.long p0]) (rest := st) rfl rfl rfl rfl rfl ⟨Nat.le_of_ble_eq_true rfl, Nat.le_of_ble_eq_true rfl, Nat.le_of_ble_eq_true rfl⟩
theorem u_41_16 : PW B X 41 16 [some (.ref a)] (st) h Q ↔ PW B X 41 17 [some (.ref a)] (.ref a :: st) h Q := PW_step rfl rfl rfl rfl
theorem u_41_16n : PW B X 41 16 [some .null] (st) h Q ↔ PW B X 41 17 [some .null] (.null :: st) h Q := PW_step rfl rfl rfl rfl
theorem u_41_17 : PW B X 41 17 lv (.ref a :: st) h Q ↔ pm_O (pm_gf (pm_at B h a) 7 2) (fun v => PW B X 41 20 lv (v :: st) h Q) := PW_getf rfl rfl
theorem u_41_20 : PW B X 41 20 lv (st) h Q ↔ PW B X 41 21 lv (.long 1 :: st) h Q := PW_step rfl rfl rfl rfl
theorem u_41_21 : PW B X 41 21 lv (.long p0 :: .ref a :: st) h Q ↔ (pm_w st ≤ 8 ∧ pm_io B h a 5 = true ∧ PW B X 9 0 [some (.ref a), some (.long p0), none, none, none, none] [] h (fun r h' => PW B X 41 24 lv (r.toList ++ st) h' Q)) := PW_cv (y := 9) (as := [.long p0]) (rest := st) rfl rfl rfl rfl rfl ⟨Nat.le_of_ble_eq_true rfl, Nat.le_of_ble_eq_true rfl, Nat.le_of_ble_eq_true rfl⟩
theorem u_41_24 : PW B X 41 24 [some (.ref a)] (st) h Q ↔ PW B X 41 25 [some (.ref a)] (.ref a :: st) h Q := PW_step rfl rfl rfl rfl
theorem u_41_24n : PW B X 41 24 [some .null] (st) h Q ↔ PW B X 41 25 [some .null] (.null :: st) h Q := PW_step rfl rfl rfl rfl
theorem u_41_25 : PW B X 41 25 lv (st) h Q ↔ PW B X 41 26 lv (.int 0 :: st) h Q := PW_step rfl rfl rfl rfl
theorem u_41_26 : PW B X 41 26 lv (v :: .ref a :: st) h Q ↔ pm_O (pm_pf (pm_at B h a) 7 5 v) (fun e => PW B X 41 29 lv (st) (pm_set B h a e) Q) := PW_putf rfl rfl
theorem u_41_29 : PW B X 41 29 lv ([]) h Q ↔ Q none h := PW_ret rfl rfl
-- 43 TermSum_add
theorem u_43_0 : PW B X 43 0 [v0, some (.long z), v2, v3, v4] (st) h Q ↔ PW B X 43 1 [v0, some (.long z), v2, v3, v4] (.long z :: st) h Q := PW_step rfl rfl rfl rfl
theorem u_43_1 : PW B X 43 1 lv (st) h Q ↔ PW B X 43 2 lv (.long 0 :: st) h Q := PW_step rfl rfl rfl rfl
theorem u_43_2 : PW B X 43 2 lv (.long w :: .long z :: st) h Q ↔ PW B X 43 3 lv (.int (lg_cmp z w) :: st) h Q := PW_step rfl rfl rfl rfl
theorem u_43_3 : PW B X 43 3 lv (.int x :: st) h Q ↔ (if x = 0 then PW B X 43 21 lv (st) h Q else PW B X 43 6 lv (st) h Q) := PW_if rfl rfl pm_c_eq
theorem u_43_6 : PW B X 43 6 [v0, v1, v2, some (.long z), v4] (st) h Q ↔ PW B X 43 7 [v0, v1, v2, some (.long z), v4] (.long z :: st) h Q := PW_step rfl rfl rfl rfl
theorem u_43_7 : PW B X 43 7 lv (st) h Q ↔ PW B X 43 8 lv (.long 0 :: st) h Q := PW_step rfl rfl rfl rfl
theorem u_43_8 : PW B X 43 8 lv (.long w :: .long z :: st) h Q ↔ PW B X 43 9 lv (.int (lg_cmp z w) :: st) h Q := PW_step rfl rfl rfl rfl
theorem u_43_9 : PW B X 43 9 lv (.int x :: st) h Q ↔ (if x ≤ 0 then PW B X 43 21 lv (st) h Q else PW B X 43 12 lv (st) h Q) := PW_if rfl rfl pm_c_le
theorem u_43_12 : PW B X 43 12 [some (.ref a), v1, v2, v3, v4] (st) h Q ↔ PW B X 43 13 [some (.ref a), v1, v2, v3, v4] (.ref a :: st) h Q := PW_step rfl rfl rfl rfl
theorem u_43_12n : PW B X 43 12 [some .null, v1, v2, v3, v4] (st) h Q ↔ PW B X 43 13 [some .null, v1, v2, v3, v4] (.null :: st) h Q := PW_step rfl rfl rfl rfl
theorem u_43_13 : PW B X 43 13 lv (.ref a :: st) h Q ↔ pm_O (pm_gf (pm_at B h a) 7 5) (fun v => PW B X 43 16 lv (v :: st) h Q) := PW_getf rfl rfl
theorem u_43_16 : PW B X 43 16 lv (st) h Q ↔ PW B X 43 18 lv (.int 6 :: st) h Q := PW_step rfl rfl rfl rfl
theorem u_43_18 : PW B X 43 18 lv (.int y :: .int x :: st) h Q ↔ (if x < y then PW B X 43 22 lv (st) h Q else PW B X 43 21 lv (st) h Q) := PW_icmp rfl rfl pm_c_lt
theorem u_43_21 : PW B X 43 21 lv ([]) h Q ↔ Q none h := PW_ret rfl rfl
theorem u_43_22 : PW B X 43 22 [some (.ref a), v1, v2, v3, v4] (st) h Q ↔ PW B X 43 23 [some (.ref a), v1, v2, v3, v4] (.ref a :: st) h Q := PW_step rfl rfl rfl rfl
theorem u_43_22n : PW B X 43 22 [some .null, v1, v2, v3, v4] (st) h Q ↔ PW B X 43 23 [some .null, v1, v2, v3, v4] (.null :: st) h Q := PW_step rfl rfl rfl rfl
theorem u_43_23 : PW B X 43 23 lv (.ref a :: st) h Q ↔ pm_O (pm_gf (pm_at B h a) 7 0) (fun v => PW B X 43 26 lv (v :: st) h Q) := PW_getf rfl rfl
theorem u_43_26 : PW B X 43 26 [v0, v1, v2, some (.long z), v4] (st) h Q ↔ PW B X 43 27 [v0, v1, v2, some (.long z), v4] (.long z :: st) h Q := PW_step rfl rfl rfl rfl
theorem u_43_27 : PW B X 43 27 lv (.long p0 :: .ref a :: st) h Q ↔ (pm_w st ≤ 8 ∧ pm_io B h a 5 = true ∧ PW B X 44 0 [some (.ref a), some (.long p0), none, none, none, none, none, none] [] h (fun r h' => PW B X 43 30 lv (r.toList ++ st) h' Q)) := PW_cv (y := 44) (as := [.long p0]) (rest := st) rfl rfl rfl rfl rfl ⟨Nat.le_of_ble_eq_true rfl, Nat.le_of_ble_eq_true rfl, Nat.le_of_ble_eq_true rfl⟩
theorem u_43_30 : PW B X 43 30 [some (.ref a), v1, v2, v3, v4] (st) h Q ↔ PW B X 43 31 [some (.ref a), v1, v2, v3, v4] (.ref a :: st) h Q := PW_step rfl rfl rfl rfl
theorem u_43_30n : PW B X 43 30 [some .null, v1, v2, v3, v4] (st) h Q ↔ PW B X 43 31 [some .null, v1, v2, v3, v4] (.null :: st) h Q := PW_step rfl rfl rfl rfl
theorem u_43_31 : PW B X 43 31 lv (.ref a :: st) h Q ↔ pm_O (pm_gf (pm_at B h a) 7 1) (fun v => PW B X 43 34 lv (v :: st) h Q) := PW_getf rfl rfl
theorem u_43_34 : PW B X 43 34 [v0, v1, v2, some (.long z), v4] (st) h Q ↔ PW B X 43 35 [v0, v1, v2, some (.long z), v4] (.long z :: st) h Q := PW_step rfl rfl rfl rfl
theorem u_43_35 : PW B X 43 35 lv (.long p0 :: .ref a :: st) h Q ↔ (pm_w st ≤ 8 ∧ pm_io B h a 5 = true ∧ PW B X 44 0 [some (.ref a), some (.long p0), none, none, none, none, none, none] [] h (fun r h' => PW B X 43 38 lv (r.toList ++ st) h' Q)) := PW_cv (y := 44) (as := [.long p0]) (rest := st) rfl rfl rfl rfl rfl ⟨Nat.le_of_ble_eq_true rfl, Nat.le_of_ble_eq_true rfl, Nat.le_of_ble_eq_true rfl⟩
theorem u_43_38 : PW B X 43 38 [some (.ref a), v1, v2, v3, v4] (st) h Q ↔ PW B X 43 39 [some (.ref a), v1, v2, v3, v4] (.ref a :: st) h Q := PW_step rfl rfl rfl rfl
theorem u_43_38n : PW B X 43 38 [some .null, v1, v2, v3, v4] (st) h Q ↔ PW B X 43 39 [some .null, v1, v2, v3, v4] (.null :: st) h Q := PW_step rfl rfl rfl rfl
theorem u_43_39 : PW B X 43 39 lv (.ref a :: st) h Q ↔ pm_O (pm_gf (pm_at B h a) 7 3) (fun v => PW B X 43 42 lv (v :: st) h Q) := PW_getf rfl rfl
theorem u_43_42 : PW B X 43 42 [some (.ref a), v1, v2, v3, v4] (st) h Q ↔ PW B X 43 43 [some (.ref a), v1, v2, v3, v4] (.ref a :: st) h Q := PW_step rfl rfl rfl rfl
theorem u_43_42n : PW B X 43 42 [some .null, v1, v2, v3, v4] (st) h Q ↔ PW B X 43 43 [some .null, v1, v2, v3, v4] (.null :: st) h Q := PW_step rfl rfl rfl rfl
theorem u_43_43 : PW B X 43 43 lv (.ref a :: st) h Q ↔ pm_O (pm_gf (pm_at B h a) 7 2) (fun v => PW B X 43 46 lv (v :: st) h Q) := PW_getf rfl rfl
theorem u_43_46 : PW B X 43 46 lv (.ref r0 :: .ref a :: st) h Q ↔ (pm_w st ≤ 8 ∧ pm_io B h a 5 = true ∧ PW B X 46 0 [some (.ref a), some (.ref r0), none] [] h (fun r h' => PW B X 43 49 lv (r.toList ++ st) h' Q)) := PW_cv (y := 46) (as := [.ref r0]) (rest := st) rfl rfl rfl rfl rfl ⟨Nat.le_of_ble_eq_true rfl, Nat.le_of_ble_eq_true rfl, Nat.le_of_ble_eq_true rfl⟩
theorem u_43_49 : PW B X 43 49 [some (.ref a), v1, v2, v3, v4] (st) h Q ↔ PW B X 43 50 [some (.ref a), v1, v2, v3, v4] (.ref a :: st) h Q := PW_step rfl rfl rfl rfl
theorem u_43_49n : PW B X 43 49 [some .null, v1, v2, v3, v4] (st) h Q ↔ PW B X 43 50 [some .null, v1, v2, v3, v4] (.null :: st) h Q := PW_step rfl rfl rfl rfl
theorem u_43_50 : PW B X 43 50 lv (.ref a :: st) h Q ↔ pm_O (pm_gf (pm_at B h a) 7 3) (fun v => PW B X 43 53 lv (v :: st) h Q) := PW_getf rfl rfl
theorem u_43_53 : PW B X 43 53 [v0, some (.long z), v2, v3, v4] (st) h Q ↔ PW B X 43 54 [v0, some (.long z), v2, v3, v4] (.long z :: st) h Q := PW_step rfl rfl rfl rfl
theorem u_43_54 : PW B X 43 54 lv (.long z :: st) h Q ↔ (pm_w st ≤ 8 ∧ PW B X 43 57 lv (.long (if 0 < z then z else -z) :: st) h Q) := PW_math rfl rfl rfl rfl
theorem u_43_57 : PW B X 43 57 lv (.long p0 :: .ref a :: st) h Q ↔ (pm_w st ≤ 8 ∧ pm_io B h a 5 = true ∧ PW B X 44 0 [some (.ref a), some (.long p0), none, none, none, none, none, none] [] h (fun r h' => PW B X 43 60 lv (r.toList ++ st) h' Q)) := PW_cv (y := 44) (as := [.long p0]) (rest := st) rfl rfl rfl rfl rfl ⟨Nat.le_of_ble_eq_true rfl, Nat.le_of_ble_eq_true rfl, Nat.le_of_ble_eq_true rfl⟩
theorem u_43_60 : PW B X 43 60 [v0, some (.long z), v2, v3, v4] (st) h Q ↔ PW B X 43 61 [v0, some (.long z), v2, v3, v4] (.long z :: st) h Q := PW_step rfl rfl rfl rfl
theorem u_43_61 : PW B X 43 61 lv (st) h Q ↔ PW B X 43 62 lv (.long 0 :: st) h Q := PW_step rfl rfl rfl rfl
theorem u_43_62 : PW B X 43 62 lv (.long w :: .long z :: st) h Q ↔ PW B X 43 63 lv (.int (lg_cmp z w) :: st) h Q := PW_step rfl rfl rfl rfl
theorem u_43_63 : PW B X 43 63 lv (.int x :: st) h Q ↔ (if x ≤ 0 then PW B X 43 80 lv (st) h Q else PW B X 43 66 lv (st) h Q) := PW_if rfl rfl pm_c_le
theorem u_43_66 : PW B X 43 66 [some (.ref a), v1, v2, v3, v4] (st) h Q ↔ PW B X 43 67 [some (.ref a), v1, v2, v3, v4] (.ref a :: st) h Q := PW_step rfl rfl rfl rfl
theorem u_43_66n : PW B X 43 66 [some .null, v1, v2, v3, v4] (st) h Q ↔ PW B X 43 67 [some .null, v1, v2, v3, v4] (.null :: st) h Q := PW_step rfl rfl rfl rfl
theorem u_43_67 : PW B X 43 67 lv (.ref a :: st) h Q ↔ pm_O (pm_gf (pm_at B h a) 7 0) (fun v => PW B X 43 70 lv (v :: st) h Q) := PW_getf rfl rfl
theorem u_43_70 : PW B X 43 70 [some (.ref a), v1, v2, v3, v4] (st) h Q ↔ PW B X 43 71 [some (.ref a), v1, v2, v3, v4] (.ref a :: st) h Q := PW_step rfl rfl rfl rfl
theorem u_43_70n : PW B X 43 70 [some .null, v1, v2, v3, v4] (st) h Q ↔ PW B X 43 71 [some .null, v1, v2, v3, v4] (.null :: st) h Q := PW_step rfl rfl rfl rfl
theorem u_43_71 : PW B X 43 71 lv (.ref a :: st) h Q ↔ pm_O (pm_gf (pm_at B h a) 7 3) (fun v => PW B X 43 74 lv (v :: st) h Q) := PW_getf rfl rfl
theorem u_43_74 : PW B X 43 74 lv (.ref r0 :: .ref a :: st) h Q ↔ (pm_w st ≤ 8 ∧ pm_io B h a 5 = true ∧ PW B X 47 0 [some (.ref a), some (.ref r0), none, none, none, none, none, none] [] h (fun r h' => PW B X 43 77 lv (r.toList ++ st) h' Q)) := PW_cv (y := 47) (as := [.ref r0]) (rest := st) rfl rfl rfl rfl rfl ⟨Nat.le_of_ble_eq_true rfl, Nat.le_of_ble_eq_true rfl, Nat.le_of_ble_eq_true rfl⟩
theorem u_43_77 : PW B X 43 77 lv (st) h Q ↔ PW B X 43 91 lv (st) h Q := PW_step rfl rfl rfl rfl
theorem u_43_80 : PW B X 43 80 [some (.ref a), v1, v2, v3, v4] (st) h Q ↔ PW B X 43 81 [some (.ref a), v1, v2, v3, v4] (.ref a :: st) h Q := PW_step rfl rfl rfl rfl
theorem u_43_80n : PW B X 43 80 [some .null, v1, v2, v3, v4] (st) h Q ↔ PW B X 43 81 [some .null, v1, v2, v3, v4] (.null :: st) h Q := PW_step rfl rfl rfl rfl
theorem u_43_81 : PW B X 43 81 lv (.ref a :: st) h Q ↔ pm_O (pm_gf (pm_at B h a) 7 1) (fun v => PW B X 43 84 lv (v :: st) h Q) := PW_getf rfl rfl
theorem u_43_84 : PW B X 43 84 [some (.ref a), v1, v2, v3, v4] (st) h Q ↔ PW B X 43 85 [some (.ref a), v1, v2, v3, v4] (.ref a :: st) h Q := PW_step rfl rfl rfl rfl
theorem u_43_84n : PW B X 43 84 [some .null, v1, v2, v3, v4] (st) h Q ↔ PW B X 43 85 [some .null, v1, v2, v3, v4] (.null :: st) h Q := PW_step rfl rfl rfl rfl
theorem u_43_85 : PW B X 43 85 lv (.ref a :: st) h Q ↔ pm_O (pm_gf (pm_at B h a) 7 3) (fun v => PW B X 43 88 lv (v :: st) h Q) := PW_getf rfl rfl
theorem u_43_88 : PW B X 43 88 lv (.ref r0 :: .ref a :: st) h Q ↔ (pm_w st ≤ 8 ∧ pm_io B h a 5 = true ∧ PW B X 47 0 [some (.ref a), some (.ref r0), none, none, none, none, none, none] [] h (fun r h' => PW B X 43 91 lv (r.toList ++ st) h' Q)) := PW_cv (y := 47) (as := [.ref r0]) (rest := st) rfl rfl rfl rfl rfl ⟨Nat.le_of_ble_eq_true rfl, Nat.le_of_ble_eq_true rfl, Nat.le_of_ble_eq_true rfl⟩
theorem u_43_91 : PW B X 43 91 [some (.ref a), v1, v2, v3, v4] (st) h Q ↔ PW B X 43 92 [some (.ref a), v1, v2, v3, v4] (.ref a :: st) h Q := PW_step rfl rfl rfl rfl
theorem u_43_91n : PW B X 43 91 [some .null, v1, v2, v3, v4] (st) h Q ↔ PW B X 43 92 [some .null, v1, v2, v3, v4] (.null :: st) h Q := PW_step rfl rfl rfl rfl
theorem u_43_92 : PW B X 43 92 lv (.ref a :: st) h Q ↔ pm_O (pm_gf (pm_at B h a) 7 2) (fun v => PW B X 43 95 lv (v :: st) h Q) := PW_getf rfl rfl
theorem u_43_95 : PW B X 43 95 [v0, v1, v2, some (.long z), v4] (st) h Q ↔ PW B X 43 96 [v0, v1, v2, some (.long z), v4] (.long z :: st) h Q := PW_step rfl rfl rfl rfl
theorem u_43_96 : PW B X 43 96 lv (.long p0 :: .ref a :: st) h Q ↔ (pm_w st ≤ 8 ∧ pm_io B h a 5 = true ∧ PW B X 44 0 [some (.ref a), some (.long p0), none, none, none, none, none, none] [] h (fun r h' => PW B X 43 99 lv (r.toList ++ st) h' Q)) := PW_cv (y := 44) (as := [.long p0]) (rest := st) rfl rfl rfl rfl rfl ⟨Nat.le_of_ble_eq_true rfl, Nat.le_of_ble_eq_true rfl, Nat.le_of_ble_eq_true rfl⟩
theorem u_43_99 : PW B X 43 99 [some (.ref a), v1, v2, v3, v4] (st) h Q ↔ PW B X 43 100 [some (.ref a), v1, v2, v3, v4] (.ref a :: st) h Q := PW_step rfl rfl rfl rfl
theorem u_43_99n : PW B X 43 99 [some .null, v1, v2, v3, v4] (st) h Q ↔ PW B X 43 100 [some .null, v1, v2, v3, v4] (.null :: st) h Q := PW_step rfl rfl rfl rfl
theorem u_43_100 : PW B X 43 100 lv (.ref a :: st) h Q ↔ pm_O (pm_gf (pm_at B h a) 7 4) (fun v => PW B X 43 103 lv (v :: st) h Q) := PW_getf rfl rfl
theorem u_43_103 : PW B X 43 103 [some (.ref a), v1, v2, v3, v4] (st) h Q ↔ PW B X 43 104 [some (.ref a), v1, v2, v3, v4] (.ref a :: st) h Q := PW_step rfl rfl rfl rfl
theorem u_43_103n : PW B X 43 103 [some .null, v1, v2, v3, v4] (st) h Q ↔ PW B X 43 104 [some .null, v1, v2, v3, v4] (.null :: st) h Q := PW_step rfl rfl rfl rfl
theorem u_43_104 : PW B X 43 104 lv (.ref a :: st) h Q ↔ pm_O (pm_gf (pm_at B h a) 7 5) (fun v => PW B X 43 107 lv (v :: st) h Q) := PW_getf rfl rfl
theorem u_43_107 : PW B X 43 107 [v0, v1, v2, some (.long z), v4] (st) h Q ↔ PW B X 43 108 [v0, v1, v2, some (.long z), v4] (.long z :: st) h Q := PW_step rfl rfl rfl rfl
theorem u_43_108 : PW B X 43 108 lv (.long z :: .int x :: .ref a :: st) h Q ↔ pm_O (pm_stl (pm_at B h a) x z) (fun e => PW B X 43 109 lv (st) (pm_set B h a e) Q) := PW_last rfl
theorem u_43_109 : PW B X 43 109 [some (.ref a), v1, v2, v3, v4] (st) h Q ↔ PW B X 43 110 [some (.ref a), v1, v2, v3, v4] (.ref a :: st) h Q := PW_step rfl rfl rfl rfl
theorem u_43_109n : PW B X 43 109 [some .null, v1, v2, v3, v4] (st) h Q ↔ PW B X 43 110 [some .null, v1, v2, v3, v4] (.null :: st) h Q := PW_step rfl rfl rfl rfl
theorem u_43_110 : PW B X 43 110 lv (.ref a :: st) h Q ↔ PW B X 43 111 lv (.ref a :: .ref a :: st) h Q := PW_step rfl rfl rfl rfl
theorem u_43_110i : PW B X 43 110 lv (.int x :: st) h Q ↔ PW B X 43 111 lv (.int x :: .int x :: st) h Q := PW_step rfl rfl rfl rfl
theorem u_43_111 : PW B X 43 111 lv (.ref a :: st) h Q ↔ pm_O (pm_gf (pm_at B h a) 7 5) (fun v => PW B X 43 114 lv (v :: st) h Q) := PW_getf rfl rfl
theorem u_43_114 : PW B X 43 114 lv (st) h Q ↔ PW B X 43 115 lv (.int 1 :: st) h Q := PW_step rfl rfl rfl rfl
theorem u_43_115 : PW B X 43 115 lv (.int y :: .int x :: st) h Q ↔ PW B X 43 116 lv (.int (x + y) :: st) h Q := PW_step rfl rfl rfl rfl
theorem u_43_116 : PW B X 43 116 lv (v :: .ref a :: st) h Q ↔ pm_O (pm_pf (pm_at B h a) 7 5 v) (fun e => PW B X 43 119 lv (st) (pm_set B h a e) Q) := PW_putf rfl rfl
theorem u_43_119 : PW B X 43 119 lv ([]) h Q ↔ Q none h := PW_ret rfl rfl
-- 49 TermSum_tell
theorem u_49_0 : PW B X 49 0 [v0, some (.ref a), v2, v3, v4] (st) h Q ↔ PW B X 49 1 [v0, some (.ref a), v2, v3, v4] (.ref a :: st) h Q := PW_step rfl rfl rfl rfl
theorem u_49_0n : PW B X 49 0 [v0, some .null, v2, v3, v4] (st) h Q ↔ PW B X 49 1 [v0, some .null, v2, v3, v4] (.null :: st) h Q := PW_step rfl rfl rfl rfl
theorem u_49_1 : PW B X 49 1 [some (.ref a), v1, v2, v3, v4] (st) h Q ↔ PW B X 49 2 [some (.ref a), v1, v2, v3, v4] (.ref a :: st) h Q := PW_step rfl rfl rfl rfl
theorem u_49_1n : PW B X 49 1 [some .null, v1, v2, v3, v4] (st) h Q ↔ PW B X 49 2 [some .null, v1, v2, v3, v4] (.null :: st) h Q := PW_step rfl rfl rfl rfl
theorem u_49_2 : PW B X 49 2 lv (.ref a :: st) h Q ↔ pm_O (pm_gf (pm_at B h a) 7 0) (fun v => PW B X 49 5 lv (v :: st) h Q) := PW_getf rfl rfl
theorem u_49_5 : PW B X 49 5 [some (.ref a), v1, v2, v3, v4] (st) h Q ↔ PW B X 49 6 [some (.ref a), v1, v2, v3, v4] (.ref a :: st) h Q := PW_step rfl rfl rfl rfl
theorem u_49_5n : PW B X 49 5 [some .null, v1, v2, v3, v4] (st) h Q ↔ PW B X 49 6 [some .null, v1, v2, v3, v4] (.null :: st) h Q := PW_step rfl rfl rfl rfl
theorem u_49_6 : PW B X 49 6 lv (.ref a :: st) h Q ↔ pm_O (pm_gf (pm_at B h a) 7 1) (fun v => PW B X 49 9 lv (v :: st) h Q) := PW_getf rfl rfl
theorem u_49_9 : PW B X 49 9 lv (.ref r0 :: .ref a :: st) h Q ↔ (pm_w st ≤ 8 ∧ pm_io B h a 5 = true ∧ PW B X 50 0 [some (.ref a), some (.ref r0), none] [] h (fun r h' => PW B X 49 12 lv (r.toList ++ st) h' Q)) := PW_cv (y := 50) (as := [.ref r0]) (rest := st) rfl rfl rfl rfl rfl ⟨Nat.le_of_ble_eq_true rfl, Nat.le_of_ble_eq_true rfl, Nat.le_of_ble_eq_true rfl⟩
theorem u_49_12 : PW B X 49 12 lv (v :: .ref a :: st) h Q ↔ pm_O (pm_pf (pm_at B h a) 8 0 v) (fun e => PW B X 49 15 lv (st) (pm_set B h a e) Q) := PW_putf rfl rfl
theorem u_49_15 : PW B X 49 15 [v0, some (.ref a), v2, v3, v4] (st) h Q ↔ PW B X 49 16 [v0, some (.ref a), v2, v3, v4] (.ref a :: st) h Q := PW_step rfl rfl rfl rfl
theorem u_49_15n : PW B X 49 15 [v0, some .null, v2, v3, v4] (st) h Q ↔ PW B X 49 16 [v0, some .null, v2, v3, v4] (.null :: st) h Q := PW_step rfl rfl rfl rfl
theorem u_49_16 : PW B X 49 16 lv (.ref a :: st) h Q ↔ pm_O (pm_gf (pm_at B h a) 8 1) (fun v => PW B X 49 19 lv (v :: st) h Q) := PW_getf rfl rfl
theorem u_49_19 : PW B X 49 19 [v0, some (.ref a), v2, v3, v4] (st) h Q ↔ PW B X 49 20 [v0, some (.ref a), v2, v3, v4] (.ref a :: st) h Q := PW_step rfl rfl rfl rfl
theorem u_49_19n : PW B X 49 19 [v0, some .null, v2, v3, v4] (st) h Q ↔ PW B X 49 20 [v0, some .null, v2, v3, v4] (.null :: st) h Q := PW_step rfl rfl rfl rfl
theorem u_49_20 : PW B X 49 20 lv (.ref a :: st) h Q ↔ pm_O (pm_gf (pm_at B h a) 8 0) (fun v => PW B X 49 23 lv (v :: st) h Q) := PW_getf rfl rfl
theorem u_49_23 : PW B X 49 23 lv (.int x :: st) h Q ↔ (if 0 ≤ x then PW B X 49 33 lv (st) h Q else PW B X 49 26 lv (st) h Q) := PW_if rfl rfl pm_c_ge
theorem u_49_26 : PW B X 49 26 [some (.ref a), v1, v2, v3, v4] (st) h Q ↔ PW B X 49 27 [some (.ref a), v1, v2, v3, v4] (.ref a :: st) h Q := PW_step rfl rfl rfl rfl
theorem u_49_26n : PW B X 49 26 [some .null, v1, v2, v3, v4] (st) h Q ↔ PW B X 49 27 [some .null, v1, v2, v3, v4] (.null :: st) h Q := PW_step rfl rfl rfl rfl
theorem u_49_27 : PW B X 49 27 lv (.ref a :: st) h Q ↔ pm_O (pm_gf (pm_at B h a) 7 1) (fun v => PW B X 49 30 lv (v :: st) h Q) := PW_getf rfl rfl
theorem u_49_30 : PW B X 49 30 lv (st) h Q ↔ PW B X 49 37 lv (st) h Q := PW_step rfl rfl rfl rfl
theorem u_49_33 : PW B X 49 33 [some (.ref a), v1, v2, v3, v4] (st) h Q ↔ PW B X 49 34 [some (.ref a), v1, v2, v3, v4] (.ref a :: st) h Q := PW_step rfl rfl rfl rfl
theorem u_49_33n : PW B X 49 33 [some .null, v1, v2, v3, v4] (st) h Q ↔ PW B X 49 34 [some .null, v1, v2, v3, v4] (.null :: st) h Q := PW_step rfl rfl rfl rfl
theorem u_49_34 : PW B X 49 34 lv (.ref a :: st) h Q ↔ pm_O (pm_gf (pm_at B h a) 7 0) (fun v => PW B X 49 37 lv (v :: st) h Q) := PW_getf rfl rfl
theorem u_49_37 : PW B X 49 37 lv (.ref r0 :: .ref a :: st) h Q ↔ (pm_w st ≤ 8 ∧ pm_io B h a 5 = true ∧ PW B X 46 0 [some (.ref a), some (.ref r0), none] [] h (fun r h' => PW B X 49 40 lv (r.toList ++ st) h' Q)) := PW_cv (y := 46) (as := [.ref r0]) (rest := st) rfl rfl rfl rfl rfl ⟨Nat.le_of_ble_eq_true rfl, Nat.le_of_ble_eq_true rfl, Nat.le_of_ble_eq_true rfl⟩
theorem u_49_40 : PW B X 49 40 [v0, some (.ref a), v2, v3, v4] (st) h Q ↔ PW B X 49 41 [v0, some (.ref a), v2, v3, v4] (.ref a :: st) h Q := PW_step rfl rfl rfl rfl
theorem u_49_40n : PW B X 49 40 [v0, some .null, v2, v3, v4] (st) h Q ↔ PW B X 49 41 [v0, some .null, v2, v3, v4] (.null :: st) h Q := PW_step rfl rfl rfl rfl
theorem u_49_41 : PW B X 49 41 lv (.ref a :: st) h Q ↔ pm_O (pm_gf (pm_at B h a) 8 1) (fun v => PW B X 49 44 lv (v :: st) h Q) := PW_getf rfl rfl
theorem u_49_44 : PW B X 49 44 [v0, some (.ref a), v2, v3, v4] (st) h Q ↔ PW B X 49 45 [v0, some (.ref a), v2, v3, v4] (.ref a :: st) h Q := PW_step rfl rfl rfl rfl
theorem u_49_44n : PW B X 49 44 [v0, some .null, v2, v3, v4] (st) h Q ↔ PW B X 49 45 [v0, some .null, v2, v3, v4] (.null :: st) h Q := PW_step rfl rfl rfl rfl
theorem u_49_45 : PW B X 49 45 lv (.ref a :: st) h Q ↔ pm_O (pm_gf (pm_at B h a) 8 0) (fun v => PW B X 49 48 lv (v :: st) h Q) := PW_getf rfl rfl
theorem u_49_48 : PW B X 49 48 lv (.int x :: st) h Q ↔ (if 0 ≤ x then PW B X 49 58 lv (st) h Q else PW B X 49 51 lv (st) h Q) := PW_if rfl rfl pm_c_ge
theorem u_49_51 : PW B X 49 51 [some (.ref a), v1, v2, v3, v4] (st) h Q ↔ PW B X 49 52 [some (.ref a), v1, v2, v3, v4] (.ref a :: st) h Q := PW_step rfl rfl rfl rfl
theorem u_49_51n : PW B X 49 51 [some .null, v1, v2, v3, v4] (st) h Q ↔ PW B X 49 52 [some .null, v1, v2, v3, v4] (.null :: st) h Q := PW_step rfl rfl rfl rfl
theorem u_49_52 : PW B X 49 52 lv (.ref a :: st) h Q ↔ pm_O (pm_gf (pm_at B h a) 7 0) (fun v => PW B X 49 55 lv (v :: st) h Q) := PW_getf rfl rfl
theorem u_49_55 : PW B X 49 55 lv (st) h Q ↔ PW B X 49 62 lv (st) h Q := PW_step rfl rfl rfl rfl
theorem u_49_58 : PW B X 49 58 [some (.ref a), v1, v2, v3, v4] (st) h Q ↔ PW B X 49 59 [some (.ref a), v1, v2, v3, v4] (.ref a :: st) h Q := PW_step rfl rfl rfl rfl
theorem u_49_58n : PW B X 49 58 [some .null, v1, v2, v3, v4] (st) h Q ↔ PW B X 49 59 [some .null, v1, v2, v3, v4] (.null :: st) h Q := PW_step rfl rfl rfl rfl
theorem u_49_59 : PW B X 49 59 lv (.ref a :: st) h Q ↔ pm_O (pm_gf (pm_at B h a) 7 1) (fun v => PW B X 49 62 lv (v :: st) h Q) := PW_getf rfl rfl
theorem u_49_62 : PW B X 49 62 lv (.ref r0 :: .ref a :: st) h Q ↔ (pm_w st ≤ 8 ∧ pm_io B h a 5 = true ∧ PW B X 53 0 [some (.ref a), some (.ref r0), none, none, none, none, none] [] h (fun r h' => PW B X 49 65 lv (r.toList ++ st) h' Q)) := PW_cv (y := 53) (as := [.ref r0]) (rest := st) rfl rfl rfl rfl rfl ⟨Nat.le_of_ble_eq_true rfl, Nat.le_of_ble_eq_true rfl, Nat.le_of_ble_eq_true rfl⟩
theorem u_49_65 : PW B X 49 65 [v0, some (.ref a), v2, v3, v4] (st) h Q ↔ PW B X 49 66 [v0, some (.ref a), v2, v3, v4] (.ref a :: st) h Q := PW_step rfl rfl rfl rfl
theorem u_49_65n : PW B X 49 65 [v0, some .null, v2, v3, v4] (st) h Q ↔ PW B X 49 66 [v0, some .null, v2, v3, v4] (.null :: st) h Q := PW_step rfl rfl rfl rfl
theorem u_49_66 : PW B X 49 66 lv (.ref a :: st) h Q ↔ pm_O (pm_gf (pm_at B h a) 8 2) (fun v => PW B X 49 69 lv (v :: st) h Q) := PW_getf rfl rfl
theorem u_49_69 : PW B X 49 69 lv (st) h Q ↔ PW B X 49 70 lv (.long 1 :: st) h Q := PW_step rfl rfl rfl rfl
theorem u_49_70 : PW B X 49 70 lv (.long p0 :: .ref a :: st) h Q ↔ (pm_w st ≤ 8 ∧ pm_io B h a 5 = true ∧ PW B X 9 0 [some (.ref a), some (.long p0), none, none, none, none] [] h (fun r h' => PW B X 49 73 lv (r.toList ++ st) h' Q)) := PW_cv (y := 9) (as := [.long p0]) (rest := st) rfl rfl rfl rfl rfl ⟨Nat.le_of_ble_eq_true rfl, Nat.le_of_ble_eq_true rfl, Nat.le_of_ble_eq_true rfl⟩
theorem u_49_73 : PW B X 49 73 lv (st) h Q ↔ PW B X 49 74 lv (.int 0 :: st) h Q := PW_step rfl rfl rfl rfl
theorem u_49_74 : PW B X 49 74 [v0, v1, v2, v3, v4] (.int x :: st) h Q ↔ PW B X 49 75 [v0, pm_c v1, some (.int x), v3, v4] (st) h Q := PW_step rfl rfl rfl rfl
theorem u_49_75 : PW B X 49 75 [v0, v1, some (.int x), v3, v4] (st) h Q ↔ PW B X 49 76 [v0, v1, some (.int x), v3, v4] (.int x :: st) h Q := PW_step rfl rfl rfl rfl
theorem u_49_76 : PW B X 49 76 [some (.ref a), v1, v2, v3, v4] (st) h Q ↔ PW B X 49 77 [some (.ref a), v1, v2, v3, v4] (.ref a :: st) h Q := PW_step rfl rfl rfl rfl
theorem u_49_76n : PW B X 49 76 [some .null, v1, v2, v3, v4] (st) h Q ↔ PW B X 49 77 [some .null, v1, v2, v3, v4] (.null :: st) h Q := PW_step rfl rfl rfl rfl
theorem u_49_77 : PW B X 49 77 lv (.ref a :: st) h Q ↔ pm_O (pm_gf (pm_at B h a) 7 5) (fun v => PW B X 49 80 lv (v :: st) h Q) := PW_getf rfl rfl
theorem u_49_80 : PW B X 49 80 lv (.int y :: .int x :: st) h Q ↔ (if y ≤ x then PW B X 49 141 lv (st) h Q else PW B X 49 83 lv (st) h Q) := PW_icmp rfl rfl pm_c_ge
theorem u_49_83 : PW B X 49 83 [some (.ref a), v1, v2, v3, v4] (st) h Q ↔ PW B X 49 84 [some (.ref a), v1, v2, v3, v4] (.ref a :: st) h Q := PW_step rfl rfl rfl rfl
theorem u_49_83n : PW B X 49 83 [some .null, v1, v2, v3, v4] (st) h Q ↔ PW B X 49 84 [some .null, v1, v2, v3, v4] (.null :: st) h Q := PW_step rfl rfl rfl rfl
theorem u_49_84 : PW B X 49 84 lv (.ref a :: st) h Q ↔ pm_O (pm_gf (pm_at B h a) 7 4) (fun v => PW B X 49 87 lv (v :: st) h Q) := PW_getf rfl rfl
theorem u_49_87 : PW B X 49 87 [v0, v1, some (.int x), v3, v4] (st) h Q ↔ PW B X 49 88 [v0, v1, some (.int x), v3, v4] (.int x :: st) h Q := PW_step rfl rfl rfl rfl
theorem u_49_88 : PW B X 49 88 lv (.int x :: .ref a :: st) h Q ↔ pm_O (pm_ldl (pm_at B h a) x) (fun v => PW B X 49 89 lv (v :: st) h Q) := PW_lald rfl
theorem u_49_89 : PW B X 49 89 [v0, some (.ref a), v2, v3, v4] (st) h Q ↔ PW B X 49 90 [v0, some (.ref a), v2, v3, v4] (.ref a :: st) h Q := PW_step rfl rfl rfl rfl
theorem u_49_89n : PW B X 49 89 [v0, some .null, v2, v3, v4] (st) h Q ↔ PW B X 49 90 [v0, some .null, v2, v3, v4] (.null :: st) h Q := PW_step rfl rfl rfl rfl
theorem u_49_90 : PW B X 49 90 lv (.ref a :: st) h Q ↔ pm_O (pm_gf (pm_at B h a) 8 1) (fun v => PW B X 49 93 lv (v :: st) h Q) := PW_getf rfl rfl
theorem u_49_93 : PW B X 49 93 [some (.ref a), v1, v2, v3, v4] (st) h Q ↔ PW B X 49 94 [some (.ref a), v1, v2, v3, v4] (.ref a :: st) h Q := PW_step rfl rfl rfl rfl
theorem u_49_93n : PW B X 49 93 [some .null, v1, v2, v3, v4] (st) h Q ↔ PW B X 49 94 [some .null, v1, v2, v3, v4] (.null :: st) h Q := PW_step rfl rfl rfl rfl
theorem u_49_94 : PW B X 49 94 lv (.ref a :: st) h Q ↔ pm_O (pm_gf (pm_at B h a) 7 4) (fun v => PW B X 49 97 lv (v :: st) h Q) := PW_getf rfl rfl
theorem u_49_97 : PW B X 49 97 [v0, v1, some (.int x), v3, v4] (st) h Q ↔ PW B X 49 98 [v0, v1, some (.int x), v3, v4] (.int x :: st) h Q := PW_step rfl rfl rfl rfl
theorem u_49_98 : PW B X 49 98 lv (.int x :: .ref a :: st) h Q ↔ pm_O (pm_ldl (pm_at B h a) x) (fun v => PW B X 49 99 lv (v :: st) h Q) := PW_lald rfl
theorem u_49_99 : PW B X 49 99 lv (.long p0 :: .ref a :: st) h Q ↔ (pm_w st ≤ 8 ∧ pm_io B h a 5 = true ∧ PW B X 54 0 [some (.ref a), some (.long p0), none, none, none, none] [] h (fun r h' => PW B X 49 102 lv (r.toList ++ st) h' Q)) := PW_cv (y := 54) (as := [.long p0]) (rest := st) rfl rfl rfl rfl rfl ⟨Nat.le_of_ble_eq_true rfl, Nat.le_of_ble_eq_true rfl, Nat.le_of_ble_eq_true rfl⟩
theorem u_49_102 : PW B X 49 102 lv (.long p1 :: .long p0 :: st) h Q ↔ (pm_w st ≤ 8 ∧ PW B X 38 0 [some (.long p0), none, some (.long p1), none, none, none, none, none, none, none, none] [] h (fun r h' => PW B X 49 105 lv (r.toList ++ st) h' Q)) := PW_cs (y := 38) (as := [.long p0, .long p1]) (rest := st) rfl rfl rfl rfl rfl ⟨Nat.le_of_ble_eq_true rfl, Nat.le_of_ble_eq_true rfl, Nat.le_of_ble_eq_true rfl⟩
theorem u_49_105 : PW B X 49 105 [v0, v1, v2, v3, v4] (.long z :: st) h Q ↔ PW B X 49 106 [v0, v1, pm_c v2, some (.long z), none] (st) h Q := PW_step rfl rfl rfl rfl
theorem u_49_106 : PW B X 49 106 [v0, v1, v2, some (.long z), v4] (st) h Q ↔ PW B X 49 107 [v0, v1, v2, some (.long z), v4] (.long z :: st) h Q := PW_step rfl rfl rfl rfl
theorem u_49_107 : PW B X 49 107 lv (st) h Q ↔ PW B X 49 108 lv (.long 0 :: st) h Q := PW_step rfl rfl rfl rfl
theorem u_49_108 : PW B X 49 108 lv (.long w :: .long z :: st) h Q ↔ PW B X 49 109 lv (.int (lg_cmp z w) :: st) h Q := PW_step rfl rfl rfl rfl
theorem u_49_109 : PW B X 49 109 lv (.int x :: st) h Q ↔ (if x ≤ 0 then PW B X 49 135 lv (st) h Q else PW B X 49 112 lv (st) h Q) := PW_if rfl rfl pm_c_le
theorem u_49_112 : PW B X 49 112 [v0, some (.ref a), v2, v3, v4] (st) h Q ↔ PW B X 49 113 [v0, some (.ref a), v2, v3, v4] (.ref a :: st) h Q := PW_step rfl rfl rfl rfl
theorem u_49_112n : PW B X 49 112 [v0, some .null, v2, v3, v4] (st) h Q ↔ PW B X 49 113 [v0, some .null, v2, v3, v4] (.null :: st) h Q := PW_step rfl rfl rfl rfl
theorem u_49_113 : PW B X 49 113 lv (.ref a :: st) h Q ↔ pm_O (pm_gf (pm_at B h a) 8 1) (fun v => PW B X 49 116 lv (v :: st) h Q) := PW_getf rfl rfl
theorem u_49_116 : PW B X 49 116 [v0, v1, v2, some (.long z), v4] (st) h Q ↔ PW B X 49 117 [v0, v1, v2, some (.long z), v4] (.long z :: st) h Q := PW_step rfl rfl rfl rfl
theorem u_49_117 : PW B X 49 117 lv (.long p0 :: .ref a :: st) h Q ↔ (pm_w st ≤ 8 ∧ pm_io B h a 5 = true ∧ PW B X 55 0 [some (.ref a), some (.long p0), none, none, none, none, none, none] [] h (fun r h' => PW B X 49 120 lv (r.toList ++ st) h' Q)) := PW_cv (y := 55) (as := [.long p0]) (rest := st) rfl rfl rfl rfl rfl ⟨Nat.le_of_ble_eq_true rfl, Nat.le_of_ble_eq_true rfl, Nat.le_of_ble_eq_true rfl⟩
theorem u_49_120 : PW B X 49 120 [v0, some (.ref a), v2, v3, v4] (st) h Q ↔ PW B X 49 121 [v0, some (.ref a), v2, v3, v4] (.ref a :: st) h Q := PW_step rfl rfl rfl rfl
theorem u_49_120n : PW B X 49 120 [v0, some .null, v2, v3, v4] (st) h Q ↔ PW B X 49 121 [v0, some .null, v2, v3, v4] (.null :: st) h Q := PW_step rfl rfl rfl rfl
theorem u_49_121 : PW B X 49 121 lv (.ref a :: st) h Q ↔ pm_O (pm_gf (pm_at B h a) 8 2) (fun v => PW B X 49 124 lv (v :: st) h Q) := PW_getf rfl rfl
theorem u_49_124 : PW B X 49 124 [some (.ref a), v1, v2, v3, v4] (st) h Q ↔ PW B X 49 125 [some (.ref a), v1, v2, v3, v4] (.ref a :: st) h Q := PW_step rfl rfl rfl rfl
theorem u_49_124n : PW B X 49 124 [some .null, v1, v2, v3, v4] (st) h Q ↔ PW B X 49 125 [some .null, v1, v2, v3, v4] (.null :: st) h Q := PW_step rfl rfl rfl rfl
theorem u_49_125 : PW B X 49 125 lv (.ref a :: st) h Q ↔ pm_O (pm_gf (pm_at B h a) 7 4) (fun v => PW B X 49 128 lv (v :: st) h Q) := PW_getf rfl rfl
theorem u_49_128 : PW B X 49 128 [v0, v1, some (.int x), v3, v4] (st) h Q ↔ PW B X 49 129 [v0, v1, some (.int x), v3, v4] (.int x :: st) h Q := PW_step rfl rfl rfl rfl
theorem u_49_129 : PW B X 49 129 lv (.int x :: .ref a :: st) h Q ↔ pm_O (pm_ldl (pm_at B h a) x) (fun v => PW B X 49 130 lv (v :: st) h Q) := PW_lald rfl
theorem u_49_130 : PW B X 49 130 [v0, v1, v2, some (.long z), v4] (st) h Q ↔ PW B X 49 131 [v0, v1, v2, some (.long z), v4] (.long z :: st) h Q := PW_step rfl rfl rfl rfl
theorem u_49_131 : PW B X 49 131 lv (.long w :: .long z :: st) h Q ↔ (¬ w = 0 ∧ PW B X 49 132 lv (.long (z / w) :: st) h Q) := PW_ldiv rfl
theorem u_49_132 : PW B X 49 132 lv (.long p0 :: .ref a :: st) h Q ↔ (pm_w st ≤ 8 ∧ pm_io B h a 5 = true ∧ PW B X 44 0 [some (.ref a), some (.long p0), none, none, none, none, none, none] [] h (fun r h' => PW B X 49 135 lv (r.toList ++ st) h' Q)) := PW_cv (y := 44) (as := [.long p0]) (rest := st) rfl rfl rfl rfl rfl ⟨Nat.le_of_ble_eq_true rfl, Nat.le_of_ble_eq_true rfl, Nat.le_of_ble_eq_true rfl⟩
theorem u_49_135 : PW B X 49 135 [v0, v1, some (.int x), v3, v4] (st) h Q ↔ PW B X 49 138 [v0, pm_c v1, some (.int (x + 1)), v3, v4] (st) h Q := PW_step rfl rfl rfl rfl
theorem u_49_138 : PW B X 49 138 lv (st) h Q ↔ PW B X 49 75 lv (st) h Q := PW_step rfl rfl rfl rfl
theorem u_49_141 : PW B X 49 141 lv ([]) h Q ↔ Q none h := PW_ret rfl rfl
-- 56 Scales_compare
theorem u_56_0 : PW B X 56 0 [v0, some (.ref a), v2] (st) h Q ↔ PW B X 56 1 [v0, some (.ref a), v2] (.ref a :: st) h Q := PW_step rfl rfl rfl rfl
theorem u_56_0n : PW B X 56 0 [v0, some .null, v2] (st) h Q ↔ PW B X 56 1 [v0, some .null, v2] (.null :: st) h Q := PW_step rfl rfl rfl rfl
theorem u_56_1 : PW B X 56 1 lv (.ref a :: st) h Q ↔ pm_O (pm_gf (pm_at B h a) 8 0) (fun v => PW B X 56 4 lv (v :: st) h Q) := PW_getf rfl rfl
theorem u_56_4 : PW B X 56 4 [v0, v1, some (.ref a)] (st) h Q ↔ PW B X 56 5 [v0, v1, some (.ref a)] (.ref a :: st) h Q := PW_step rfl rfl rfl rfl
theorem u_56_4n : PW B X 56 4 [v0, v1, some .null] (st) h Q ↔ PW B X 56 5 [v0, v1, some .null] (.null :: st) h Q := PW_step rfl rfl rfl rfl
theorem u_56_5 : PW B X 56 5 lv (.ref a :: st) h Q ↔ pm_O (pm_gf (pm_at B h a) 8 0) (fun v => PW B X 56 8 lv (v :: st) h Q) := PW_getf rfl rfl
theorem u_56_8 : PW B X 56 8 lv (.int y :: .int x :: st) h Q ↔ (if x = y then PW B X 56 23 lv (st) h Q else PW B X 56 11 lv (st) h Q) := PW_icmp rfl rfl pm_c_eq
theorem u_56_11 : PW B X 56 11 [v0, some (.ref a), v2] (st) h Q ↔ PW B X 56 12 [v0, some (.ref a), v2] (.ref a :: st) h Q := PW_step rfl rfl rfl rfl
theorem u_56_11n : PW B X 56 11 [v0, some .null, v2] (st) h Q ↔ PW B X 56 12 [v0, some .null, v2] (.null :: st) h Q := PW_step rfl rfl rfl rfl
theorem u_56_12 : PW B X 56 12 lv (.ref a :: st) h Q ↔ pm_O (pm_gf (pm_at B h a) 8 0) (fun v => PW B X 56 15 lv (v :: st) h Q) := PW_getf rfl rfl
theorem u_56_15 : PW B X 56 15 [v0, v1, some (.ref a)] (st) h Q ↔ PW B X 56 16 [v0, v1, some (.ref a)] (.ref a :: st) h Q := PW_step rfl rfl rfl rfl
theorem u_56_15n : PW B X 56 15 [v0, v1, some .null] (st) h Q ↔ PW B X 56 16 [v0, v1, some .null] (.null :: st) h Q := PW_step rfl rfl rfl rfl
theorem u_56_16 : PW B X 56 16 lv (.ref a :: st) h Q ↔ pm_O (pm_gf (pm_at B h a) 8 0) (fun v => PW B X 56 19 lv (v :: st) h Q) := PW_getf rfl rfl
theorem u_56_19 : PW B X 56 19 lv (.int q1 :: .int q0 :: st) h Q ↔ (pm_w st ≤ 8 ∧ PW B X 51 0 [some (.int q0), some (.int q1)] [] h (fun r h' => PW B X 56 22 lv (r.toList ++ st) h' Q)) := PW_cs (y := 51) (as := [.int q0, .int q1]) (rest := st) rfl rfl rfl rfl rfl ⟨Nat.le_of_ble_eq_true rfl, Nat.le_of_ble_eq_true rfl, Nat.le_of_ble_eq_true rfl⟩
theorem u_56_22 : PW B X 56 22 lv ([.int x]) h Q ↔ Q (some (.int x)) h := PW_ret rfl rfl
theorem u_56_23 : PW B X 56 23 [v0, some (.ref a), v2] (st) h Q ↔ PW B X 56 24 [v0, some (.ref a), v2] (.ref a :: st) h Q := PW_step rfl rfl rfl rfl
theorem u_56_23n : PW B X 56 23 [v0, some .null, v2] (st) h Q ↔ PW B X 56 24 [v0, some .null, v2] (.null :: st) h Q := PW_step rfl rfl rfl rfl
theorem u_56_24 : PW B X 56 24 lv (.ref a :: st) h Q ↔ pm_O (pm_gf (pm_at B h a) 8 0) (fun v => PW B X 56 27 lv (v :: st) h Q) := PW_getf rfl rfl
theorem u_56_27 : PW B X 56 27 [some (.ref a), v1, v2] (st) h Q ↔ PW B X 56 28 [some (.ref a), v1, v2] (.ref a :: st) h Q := PW_step rfl rfl rfl rfl
theorem u_56_27n : PW B X 56 27 [some .null, v1, v2] (st) h Q ↔ PW B X 56 28 [some .null, v1, v2] (.null :: st) h Q := PW_step rfl rfl rfl rfl
theorem u_56_28 : PW B X 56 28 [v0, some (.ref a), v2] (st) h Q ↔ PW B X 56 29 [v0, some (.ref a), v2] (.ref a :: st) h Q := PW_step rfl rfl rfl rfl
theorem u_56_28n : PW B X 56 28 [v0, some .null, v2] (st) h Q ↔ PW B X 56 29 [v0, some .null, v2] (.null :: st) h Q := PW_step rfl rfl rfl rfl
theorem u_56_29 : PW B X 56 29 [v0, v1, some (.ref a)] (st) h Q ↔ PW B X 56 30 [v0, v1, some (.ref a)] (.ref a :: st) h Q := PW_step rfl rfl rfl rfl
theorem u_56_29n : PW B X 56 29 [v0, v1, some .null] (st) h Q ↔ PW B X 56 30 [v0, v1, some .null] (.null :: st) h Q := PW_step rfl rfl rfl rfl
theorem u_56_30 : PW B X 56 30 lv (.ref r1 :: .ref r0 :: .ref a :: st) h Q ↔ (pm_w st ≤ 8 ∧ pm_io B h a 4 = true ∧ PW B X 57 0 [some (.ref a), some (.ref r0), some (.ref r1)] [] h (fun r h' => PW B X 56 33 lv (r.toList ++ st) h' Q)) := PW_cv (y := 57) (as := [.ref r0, .ref r1]) (rest := st) rfl rfl rfl rfl rfl ⟨Nat.le_of_ble_eq_true rfl, Nat.le_of_ble_eq_true rfl, Nat.le_of_ble_eq_true rfl⟩
theorem u_56_33 : PW B X 56 33 lv (.int y :: .int x :: st) h Q ↔ PW B X 56 34 lv (.int (x * y) :: st) h Q := PW_step rfl rfl rfl rfl
theorem u_56_34 : PW B X 56 34 lv ([.int x]) h Q ↔ Q (some (.int x)) h := PW_ret rfl rfl
-- 57 Scales_compareSizes
theorem u_57_0 : PW B X 57 0 [some (.ref a), v1, v2] (st) h Q ↔ PW B X 57 1 [some (.ref a), v1, v2] (.ref a :: st) h Q := PW_step rfl rfl rfl rfl
theorem u_57_0n : PW B X 57 0 [some .null, v1, v2] (st) h Q ↔ PW B X 57 1 [some .null, v1, v2] (.null :: st) h Q := PW_step rfl rfl rfl rfl
theorem u_57_1 : PW B X 57 1 lv (.ref a :: st) h Q ↔ pm_O (pm_gf (pm_at B h a) 4 0) (fun v => PW B X 57 4 lv (v :: st) h Q) := PW_getf rfl rfl
theorem u_57_4 : PW B X 57 4 [v0, some (.ref a), v2] (st) h Q ↔ PW B X 57 5 [v0, some (.ref a), v2] (.ref a :: st) h Q := PW_step rfl rfl rfl rfl
theorem u_57_4n : PW B X 57 4 [v0, some .null, v2] (st) h Q ↔ PW B X 57 5 [v0, some .null, v2] (.null :: st) h Q := PW_step rfl rfl rfl rfl
theorem u_57_5 : PW B X 57 5 lv (.ref a :: st) h Q ↔ pm_O (pm_gf (pm_at B h a) 8 1) (fun v => PW B X 57 8 lv (v :: st) h Q) := PW_getf rfl rfl
theorem u_57_8 : PW B X 57 8 [v0, v1, some (.ref a)] (st) h Q ↔ PW B X 57 9 [v0, v1, some (.ref a)] (.ref a :: st) h Q := PW_step rfl rfl rfl rfl
theorem u_57_8n : PW B X 57 8 [v0, v1, some .null] (st) h Q ↔ PW B X 57 9 [v0, v1, some .null] (.null :: st) h Q := PW_step rfl rfl rfl rfl
theorem u_57_9 : PW B X 57 9 lv (.ref a :: st) h Q ↔ pm_O (pm_gf (pm_at B h a) 8 2) (fun v => PW B X 57 12 lv (v :: st) h Q) := PW_getf rfl rfl
theorem u_57_12 : PW B X 57 12 lv (.ref r1 :: .ref r0 :: .ref a :: st) h Q ↔ (pm_w st ≤ 8 ∧ pm_io B h a 5 = true ∧ PW B X 58 0 [some (.ref a), some (.ref r0), some (.ref r1), none, none, none, none, none, none] [] h (fun r h' => PW B X 57 15 lv (r.toList ++ st) h' Q)) := PW_cv (y := 58) (as := [.ref r0, .ref r1]) (rest := st) rfl rfl rfl rfl rfl ⟨Nat.le_of_ble_eq_true rfl, Nat.le_of_ble_eq_true rfl, Nat.le_of_ble_eq_true rfl⟩
theorem u_57_15 : PW B X 57 15 [some (.ref a), v1, v2] (st) h Q ↔ PW B X 57 16 [some (.ref a), v1, v2] (.ref a :: st) h Q := PW_step rfl rfl rfl rfl
theorem u_57_15n : PW B X 57 15 [some .null, v1, v2] (st) h Q ↔ PW B X 57 16 [some .null, v1, v2] (.null :: st) h Q := PW_step rfl rfl rfl rfl
theorem u_57_16 : PW B X 57 16 lv (.ref a :: st) h Q ↔ pm_O (pm_gf (pm_at B h a) 4 1) (fun v => PW B X 57 19 lv (v :: st) h Q) := PW_getf rfl rfl
theorem u_57_19 : PW B X 57 19 [v0, v1, some (.ref a)] (st) h Q ↔ PW B X 57 20 [v0, v1, some (.ref a)] (.ref a :: st) h Q := PW_step rfl rfl rfl rfl
theorem u_57_19n : PW B X 57 19 [v0, v1, some .null] (st) h Q ↔ PW B X 57 20 [v0, v1, some .null] (.null :: st) h Q := PW_step rfl rfl rfl rfl
theorem u_57_20 : PW B X 57 20 lv (.ref a :: st) h Q ↔ pm_O (pm_gf (pm_at B h a) 8 1) (fun v => PW B X 57 23 lv (v :: st) h Q) := PW_getf rfl rfl
theorem u_57_23 : PW B X 57 23 [v0, some (.ref a), v2] (st) h Q ↔ PW B X 57 24 [v0, some (.ref a), v2] (.ref a :: st) h Q := PW_step rfl rfl rfl rfl
theorem u_57_23n : PW B X 57 23 [v0, some .null, v2] (st) h Q ↔ PW B X 57 24 [v0, some .null, v2] (.null :: st) h Q := PW_step rfl rfl rfl rfl
theorem u_57_24 : PW B X 57 24 lv (.ref a :: st) h Q ↔ pm_O (pm_gf (pm_at B h a) 8 2) (fun v => PW B X 57 27 lv (v :: st) h Q) := PW_getf rfl rfl
theorem u_57_27 : PW B X 57 27 lv (.ref r1 :: .ref r0 :: .ref a :: st) h Q ↔ (pm_w st ≤ 8 ∧ pm_io B h a 5 = true ∧ PW B X 58 0 [some (.ref a), some (.ref r0), some (.ref r1), none, none, none, none, none, none] [] h (fun r h' => PW B X 57 30 lv (r.toList ++ st) h' Q)) := PW_cv (y := 58) (as := [.ref r0, .ref r1]) (rest := st) rfl rfl rfl rfl rfl ⟨Nat.le_of_ble_eq_true rfl, Nat.le_of_ble_eq_true rfl, Nat.le_of_ble_eq_true rfl⟩
theorem u_57_30 : PW B X 57 30 [some (.ref a), v1, v2] (st) h Q ↔ PW B X 57 31 [some (.ref a), v1, v2] (.ref a :: st) h Q := PW_step rfl rfl rfl rfl
theorem u_57_30n : PW B X 57 30 [some .null, v1, v2] (st) h Q ↔ PW B X 57 31 [some .null, v1, v2] (.null :: st) h Q := PW_step rfl rfl rfl rfl
theorem u_57_31 : PW B X 57 31 lv (.ref a :: st) h Q ↔ pm_O (pm_gf (pm_at B h a) 4 0) (fun v => PW B X 57 34 lv (v :: st) h Q) := PW_getf rfl rfl
theorem u_57_34 : PW B X 57 34 [some (.ref a), v1, v2] (st) h Q ↔ PW B X 57 35 [some (.ref a), v1, v2] (.ref a :: st) h Q := PW_step rfl rfl rfl rfl
theorem u_57_34n : PW B X 57 34 [some .null, v1, v2] (st) h Q ↔ PW B X 57 35 [some .null, v1, v2] (.null :: st) h Q := PW_step rfl rfl rfl rfl
theorem u_57_35 : PW B X 57 35 lv (.ref a :: st) h Q ↔ pm_O (pm_gf (pm_at B h a) 4 1) (fun v => PW B X 57 38 lv (v :: st) h Q) := PW_getf rfl rfl
theorem u_57_38 : PW B X 57 38 lv (.ref r0 :: .ref a :: st) h Q ↔ (pm_w st ≤ 8 ∧ pm_io B h a 5 = true ∧ PW B X 50 0 [some (.ref a), some (.ref r0), none] [] h (fun r h' => PW B X 57 41 lv (r.toList ++ st) h' Q)) := PW_cv (y := 50) (as := [.ref r0]) (rest := st) rfl rfl rfl rfl rfl ⟨Nat.le_of_ble_eq_true rfl, Nat.le_of_ble_eq_true rfl, Nat.le_of_ble_eq_true rfl⟩
theorem u_57_41 : PW B X 57 41 lv ([.int x]) h Q ↔ Q (some (.int x)) h := PW_ret rfl rfl
-- 59 Fraction_copy
theorem u_59_0 : PW B X 59 0 [some (.ref a), v1] (st) h Q ↔ PW B X 59 1 [some (.ref a), v1] (.ref a :: st) h Q := PW_step rfl rfl rfl rfl
theorem u_59_0n : PW B X 59 0 [some .null, v1] (st) h Q ↔ PW B X 59 1 [some .null, v1] (.null :: st) h Q := PW_step rfl rfl rfl rfl
theorem u_59_1 : PW B X 59 1 [v0, some (.ref a)] (st) h Q ↔ PW B X 59 2 [v0, some (.ref a)] (.ref a :: st) h Q := PW_step rfl rfl rfl rfl
theorem u_59_1n : PW B X 59 1 [v0, some .null] (st) h Q ↔ PW B X 59 2 [v0, some .null] (.null :: st) h Q := PW_step rfl rfl rfl rfl
theorem u_59_2 : PW B X 59 2 lv (.ref a :: st) h Q ↔ pm_O (pm_gf (pm_at B h a) 8 0) (fun v => PW B X 59 5 lv (v :: st) h Q) := PW_getf rfl rfl
theorem u_59_5 : PW B X 59 5 lv (v :: .ref a :: st) h Q ↔ pm_O (pm_pf (pm_at B h a) 8 0 v) (fun e => PW B X 59 8 lv (st) (pm_set B h a e) Q) := PW_putf rfl rfl
theorem u_59_8 : PW B X 59 8 [some (.ref a), v1] (st) h Q ↔ PW B X 59 9 [some (.ref a), v1] (.ref a :: st) h Q := PW_step rfl rfl rfl rfl
theorem u_59_8n : PW B X 59 8 [some .null, v1] (st) h Q ↔ PW B X 59 9 [some .null, v1] (.null :: st) h Q := PW_step rfl rfl rfl rfl
theorem u_59_9 : PW B X 59 9 lv (.ref a :: st) h Q ↔ pm_O (pm_gf (pm_at B h a) 8 1) (fun v => PW B X 59 12 lv (v :: st) h Q) := PW_getf rfl rfl
theorem u_59_12 : PW B X 59 12 [v0, some (.ref a)] (st) h Q ↔ PW B X 59 13 [v0, some (.ref a)] (.ref a :: st) h Q := PW_step rfl rfl rfl rfl
theorem u_59_12n : PW B X 59 12 [v0, some .null] (st) h Q ↔ PW B X 59 13 [v0, some .null] (.null :: st) h Q := PW_step rfl rfl rfl rfl
theorem u_59_13 : PW B X 59 13 lv (.ref a :: st) h Q ↔ pm_O (pm_gf (pm_at B h a) 8 1) (fun v => PW B X 59 16 lv (v :: st) h Q) := PW_getf rfl rfl
theorem u_59_16 : PW B X 59 16 lv (.ref r0 :: .ref a :: st) h Q ↔ (pm_w st ≤ 8 ∧ pm_io B h a 5 = true ∧ PW B X 46 0 [some (.ref a), some (.ref r0), none] [] h (fun r h' => PW B X 59 19 lv (r.toList ++ st) h' Q)) := PW_cv (y := 46) (as := [.ref r0]) (rest := st) rfl rfl rfl rfl rfl ⟨Nat.le_of_ble_eq_true rfl, Nat.le_of_ble_eq_true rfl, Nat.le_of_ble_eq_true rfl⟩
theorem u_59_19 : PW B X 59 19 [some (.ref a), v1] (st) h Q ↔ PW B X 59 20 [some (.ref a), v1] (.ref a :: st) h Q := PW_step rfl rfl rfl rfl
theorem u_59_19n : PW B X 59 19 [some .null, v1] (st) h Q ↔ PW B X 59 20 [some .null, v1] (.null :: st) h Q := PW_step rfl rfl rfl rfl
theorem u_59_20 : PW B X 59 20 lv (.ref a :: st) h Q ↔ pm_O (pm_gf (pm_at B h a) 8 2) (fun v => PW B X 59 23 lv (v :: st) h Q) := PW_getf rfl rfl
theorem u_59_23 : PW B X 59 23 [v0, some (.ref a)] (st) h Q ↔ PW B X 59 24 [v0, some (.ref a)] (.ref a :: st) h Q := PW_step rfl rfl rfl rfl
theorem u_59_23n : PW B X 59 23 [v0, some .null] (st) h Q ↔ PW B X 59 24 [v0, some .null] (.null :: st) h Q := PW_step rfl rfl rfl rfl
theorem u_59_24 : PW B X 59 24 lv (.ref a :: st) h Q ↔ pm_O (pm_gf (pm_at B h a) 8 2) (fun v => PW B X 59 27 lv (v :: st) h Q) := PW_getf rfl rfl
theorem u_59_27 : PW B X 59 27 lv (.ref r0 :: .ref a :: st) h Q ↔ (pm_w st ≤ 8 ∧ pm_io B h a 5 = true ∧ PW B X 46 0 [some (.ref a), some (.ref r0), none] [] h (fun r h' => PW B X 59 30 lv (r.toList ++ st) h' Q)) := PW_cv (y := 46) (as := [.ref r0]) (rest := st) rfl rfl rfl rfl rfl ⟨Nat.le_of_ble_eq_true rfl, Nat.le_of_ble_eq_true rfl, Nat.le_of_ble_eq_true rfl⟩
theorem u_59_30 : PW B X 59 30 lv ([]) h Q ↔ Q none h := PW_ret rfl rfl
-- 61 Fraction_partAt
theorem u_61_0 : PW B X 61 0 [v0, some (.int x)] (st) h Q ↔ PW B X 61 1 [v0, some (.int x)] (.int x :: st) h Q := PW_step rfl rfl rfl rfl
theorem u_61_1 : PW B X 61 1 lv (st) h Q ↔ PW B X 61 2 lv (.int (-1) :: st) h Q := PW_step rfl rfl rfl rfl
theorem u_61_2 : PW B X 61 2 lv (.int y :: .int x :: st) h Q ↔ (if ¬ x = y then PW B X 61 11 lv (st) h Q else PW B X 61 5 lv (st) h Q) := PW_icmp rfl rfl pm_c_ne
theorem u_61_5 : PW B X 61 5 [some (.ref a), v1] (st) h Q ↔ PW B X 61 6 [some (.ref a), v1] (.ref a :: st) h Q := PW_step rfl rfl rfl rfl
theorem u_61_5n : PW B X 61 5 [some .null, v1] (st) h Q ↔ PW B X 61 6 [some .null, v1] (.null :: st) h Q := PW_step rfl rfl rfl rfl
theorem u_61_6 : PW B X 61 6 lv (.ref a :: st) h Q ↔ pm_O (pm_gf (pm_at B h a) 8 0) (fun v => PW B X 61 9 lv (v :: st) h Q) := PW_getf rfl rfl
theorem u_61_9 : PW B X 61 9 lv (.int x :: st) h Q ↔ PW B X 61 10 lv (.long x.toInt64 :: st) h Q := PW_step rfl rfl rfl rfl
theorem u_61_10 : PW B X 61 10 lv ([.long z]) h Q ↔ Q (some (.long z)) h := PW_ret rfl rfl
theorem u_61_11 : PW B X 61 11 [v0, some (.int x)] (st) h Q ↔ PW B X 61 12 [v0, some (.int x)] (.int x :: st) h Q := PW_step rfl rfl rfl rfl
theorem u_61_12 : PW B X 61 12 lv (st) h Q ↔ PW B X 61 13 lv (.int 2 :: st) h Q := PW_step rfl rfl rfl rfl
theorem u_61_13 : PW B X 61 13 lv (.int y :: .int x :: st) h Q ↔ (¬ y = 0 ∧ PW B X 61 14 lv (.int (x - x / y * y) :: st) h Q) := PW_irem rfl
theorem u_61_14 : PW B X 61 14 lv (.int x :: st) h Q ↔ (if ¬ x = 0 then PW B X 61 30 lv (st) h Q else PW B X 61 17 lv (st) h Q) := PW_if rfl rfl pm_c_ne
theorem u_61_17 : PW B X 61 17 [some (.ref a), v1] (st) h Q ↔ PW B X 61 18 [some (.ref a), v1] (.ref a :: st) h Q := PW_step rfl rfl rfl rfl
theorem u_61_17n : PW B X 61 17 [some .null, v1] (st) h Q ↔ PW B X 61 18 [some .null, v1] (.null :: st) h Q := PW_step rfl rfl rfl rfl
theorem u_61_18 : PW B X 61 18 lv (.ref a :: st) h Q ↔ pm_O (pm_gf (pm_at B h a) 8 1) (fun v => PW B X 61 21 lv (v :: st) h Q) := PW_getf rfl rfl
theorem u_61_21 : PW B X 61 21 [v0, some (.int x)] (st) h Q ↔ PW B X 61 22 [v0, some (.int x)] (.int x :: st) h Q := PW_step rfl rfl rfl rfl
theorem u_61_22 : PW B X 61 22 lv (st) h Q ↔ PW B X 61 23 lv (.int 2 :: st) h Q := PW_step rfl rfl rfl rfl
theorem u_61_23 : PW B X 61 23 lv (.int y :: .int x :: st) h Q ↔ (¬ y = 0 ∧ PW B X 61 24 lv (.int (x / y) :: st) h Q) := PW_idiv rfl
theorem u_61_24 : PW B X 61 24 lv (.int q0 :: .ref a :: st) h Q ↔ (pm_w st ≤ 8 ∧ pm_io B h a 5 = true ∧ PW B X 62 0 [some (.ref a), some (.int q0)] [] h (fun r h' => PW B X 61 27 lv (r.toList ++ st) h' Q)) := PW_cv (y := 62) (as := [.int q0]) (rest := st) rfl rfl rfl rfl rfl ⟨Nat.le_of_ble_eq_true rfl, Nat.le_of_ble_eq_true rfl, Nat.le_of_ble_eq_true rfl⟩
theorem u_61_27 : PW B X 61 27 lv (st) h Q ↔ PW B X 61 40 lv (st) h Q := PW_step rfl rfl rfl rfl
theorem u_61_30 : PW B X 61 30 [some (.ref a), v1] (st) h Q ↔ PW B X 61 31 [some (.ref a), v1] (.ref a :: st) h Q := PW_step rfl rfl rfl rfl
theorem u_61_30n : PW B X 61 30 [some .null, v1] (st) h Q ↔ PW B X 61 31 [some .null, v1] (.null :: st) h Q := PW_step rfl rfl rfl rfl
theorem u_61_31 : PW B X 61 31 lv (.ref a :: st) h Q ↔ pm_O (pm_gf (pm_at B h a) 8 2) (fun v => PW B X 61 34 lv (v :: st) h Q) := PW_getf rfl rfl
theorem u_61_34 : PW B X 61 34 [v0, some (.int x)] (st) h Q ↔ PW B X 61 35 [v0, some (.int x)] (.int x :: st) h Q := PW_step rfl rfl rfl rfl
theorem u_61_35 : PW B X 61 35 lv (st) h Q ↔ PW B X 61 36 lv (.int 2 :: st) h Q := PW_step rfl rfl rfl rfl
theorem u_61_36 : PW B X 61 36 lv (.int y :: .int x :: st) h Q ↔ (¬ y = 0 ∧ PW B X 61 37 lv (.int (x / y) :: st) h Q) := PW_idiv rfl
theorem u_61_37 : PW B X 61 37 lv (.int q0 :: .ref a :: st) h Q ↔ (pm_w st ≤ 8 ∧ pm_io B h a 5 = true ∧ PW B X 62 0 [some (.ref a), some (.int q0)] [] h (fun r h' => PW B X 61 40 lv (r.toList ++ st) h' Q)) := PW_cv (y := 62) (as := [.int q0]) (rest := st) rfl rfl rfl rfl rfl ⟨Nat.le_of_ble_eq_true rfl, Nat.le_of_ble_eq_true rfl, Nat.le_of_ble_eq_true rfl⟩
theorem u_61_40 : PW B X 61 40 lv ([.long z]) h Q ↔ Q (some (.long z)) h := PW_ret rfl rfl
-- 66 Differences_clear
theorem u_66_0 : PW B X 66 0 [some (.ref a)] (st) h Q ↔ PW B X 66 1 [some (.ref a)] (.ref a :: st) h Q := PW_step rfl rfl rfl rfl
theorem u_66_0n : PW B X 66 0 [some .null] (st) h Q ↔ PW B X 66 1 [some .null] (.null :: st) h Q := PW_step rfl rfl rfl rfl
theorem u_66_1 : PW B X 66 1 lv (st) h Q ↔ PW B X 66 2 lv (.long 0 :: st) h Q := PW_step rfl rfl rfl rfl
theorem u_66_2 : PW B X 66 2 lv (v :: .ref a :: st) h Q ↔ pm_O (pm_pf (pm_at B h a) 1 0 v) (fun e => PW B X 66 5 lv (st) (pm_set B h a e) Q) := PW_putf rfl rfl
theorem u_66_5 : PW B X 66 5 [some (.ref a)] (st) h Q ↔ PW B X 66 6 [some (.ref a)] (.ref a :: st) h Q := PW_step rfl rfl rfl rfl
theorem u_66_5n : PW B X 66 5 [some .null] (st) h Q ↔ PW B X 66 6 [some .null] (.null :: st) h Q := PW_step rfl rfl rfl rfl
theorem u_66_6 : PW B X 66 6 lv (st) h Q ↔ PW B X 66 7 lv (.long 0 :: st) h Q := PW_step rfl rfl rfl rfl
theorem u_66_7 : PW B X 66 7 lv (v :: .ref a :: st) h Q ↔ pm_O (pm_pf (pm_at B h a) 1 1 v) (fun e => PW B X 66 10 lv (st) (pm_set B h a e) Q) := PW_putf rfl rfl
theorem u_66_10 : PW B X 66 10 [some (.ref a)] (st) h Q ↔ PW B X 66 11 [some (.ref a)] (.ref a :: st) h Q := PW_step rfl rfl rfl rfl
theorem u_66_10n : PW B X 66 10 [some .null] (st) h Q ↔ PW B X 66 11 [some .null] (.null :: st) h Q := PW_step rfl rfl rfl rfl
theorem u_66_11 : PW B X 66 11 lv (st) h Q ↔ PW B X 66 12 lv (.int 0 :: st) h Q := PW_step rfl rfl rfl rfl
theorem u_66_12 : PW B X 66 12 lv (v :: .ref a :: st) h Q ↔ pm_O (pm_pf (pm_at B h a) 1 2 v) (fun e => PW B X 66 15 lv (st) (pm_set B h a e) Q) := PW_putf rfl rfl
theorem u_66_15 : PW B X 66 15 [some (.ref a)] (st) h Q ↔ PW B X 66 16 [some (.ref a)] (.ref a :: st) h Q := PW_step rfl rfl rfl rfl
theorem u_66_15n : PW B X 66 15 [some .null] (st) h Q ↔ PW B X 66 16 [some .null] (.null :: st) h Q := PW_step rfl rfl rfl rfl
theorem u_66_16 : PW B X 66 16 lv (st) h Q ↔ PW B X 66 17 lv (.int 0 :: st) h Q := PW_step rfl rfl rfl rfl
theorem u_66_17 : PW B X 66 17 lv (v :: .ref a :: st) h Q ↔ pm_O (pm_pf (pm_at B h a) 1 3 v) (fun e => PW B X 66 20 lv (st) (pm_set B h a e) Q) := PW_putf rfl rfl
theorem u_66_20 : PW B X 66 20 lv ([]) h Q ↔ Q none h := PW_ret rfl rfl
-- 68 Bearing_isHeldOn
theorem u_68_0 : PW B X 68 0 [v0, some (.int x)] (st) h Q ↔ PW B X 68 1 [v0, some (.int x)] (.int x :: st) h Q := PW_step rfl rfl rfl rfl
theorem u_68_1 : PW B X 68 1 lv (.int x :: st) h Q ↔ (if ¬ x = 0 then PW B X 68 11 lv (st) h Q else PW B X 68 4 lv (st) h Q) := PW_if rfl rfl pm_c_ne
theorem u_68_4 : PW B X 68 4 [some (.ref a), v1] (st) h Q ↔ PW B X 68 5 [some (.ref a), v1] (.ref a :: st) h Q := PW_step rfl rfl rfl rfl
theorem u_68_4n : PW B X 68 4 [some .null, v1] (st) h Q ↔ PW B X 68 5 [some .null, v1] (.null :: st) h Q := PW_step rfl rfl rfl rfl
theorem u_68_5 : PW B X 68 5 lv (.ref a :: st) h Q ↔ pm_O (pm_gf (pm_at B h a) 9 2) (fun v => PW B X 68 8 lv (v :: st) h Q) := PW_getf rfl rfl
theorem u_68_8 : PW B X 68 8 lv (st) h Q ↔ PW B X 68 15 lv (st) h Q := PW_step rfl rfl rfl rfl
theorem u_68_11 : PW B X 68 11 [some (.ref a), v1] (st) h Q ↔ PW B X 68 12 [some (.ref a), v1] (.ref a :: st) h Q := PW_step rfl rfl rfl rfl
theorem u_68_11n : PW B X 68 11 [some .null, v1] (st) h Q ↔ PW B X 68 12 [some .null, v1] (.null :: st) h Q := PW_step rfl rfl rfl rfl
theorem u_68_12 : PW B X 68 12 lv (.ref a :: st) h Q ↔ pm_O (pm_gf (pm_at B h a) 9 3) (fun v => PW B X 68 15 lv (v :: st) h Q) := PW_getf rfl rfl
theorem u_68_15 (hx : narrow .boolean (.int x) = .int x) : PW B X 68 15 lv ([.int x]) h Q ↔ Q (some (.int x)) h := PW_bret rfl rfl (by simp) hx
theorem u_68_15_0 : PW B X 68 15 lv ([.int 0]) h Q ↔ Q (some (.int 0)) h := u_68_15 rfl
theorem u_68_15_1 : PW B X 68 15 lv ([.int 1]) h Q ↔ Q (some (.int 1)) h := u_68_15 rfl
-- 69 Differences_add
theorem u_69_0 : PW B X 69 0 [v0, some (.long z), v2, v3, v4] (st) h Q ↔ PW B X 69 1 [v0, some (.long z), v2, v3, v4] (.long z :: st) h Q := PW_step rfl rfl rfl rfl
theorem u_69_1 : PW B X 69 1 lv (st) h Q ↔ PW B X 69 2 lv (.long 0 :: st) h Q := PW_step rfl rfl rfl rfl
theorem u_69_2 : PW B X 69 2 lv (.long w :: .long z :: st) h Q ↔ PW B X 69 3 lv (.int (lg_cmp z w) :: st) h Q := PW_step rfl rfl rfl rfl
theorem u_69_3 : PW B X 69 3 lv (.int x :: st) h Q ↔ (if x = 0 then PW B X 69 11 lv (st) h Q else PW B X 69 6 lv (st) h Q) := PW_if rfl rfl pm_c_eq
theorem u_69_6 : PW B X 69 6 [some (.ref a), v1, v2, v3, v4] (st) h Q ↔ PW B X 69 7 [some (.ref a), v1, v2, v3, v4] (.ref a :: st) h Q := PW_step rfl rfl rfl rfl
theorem u_69_6n : PW B X 69 6 [some .null, v1, v2, v3, v4] (st) h Q ↔ PW B X 69 7 [some .null, v1, v2, v3, v4] (.null :: st) h Q := PW_step rfl rfl rfl rfl
theorem u_69_7 : PW B X 69 7 lv (st) h Q ↔ PW B X 69 8 lv (.int 1 :: st) h Q := PW_step rfl rfl rfl rfl
theorem u_69_8 : PW B X 69 8 lv (v :: .ref a :: st) h Q ↔ pm_O (pm_pf (pm_at B h a) 1 3 v) (fun e => PW B X 69 11 lv (st) (pm_set B h a e) Q) := PW_putf rfl rfl
theorem u_69_11 : PW B X 69 11 [some (.ref a), v1, v2, v3, v4] (st) h Q ↔ PW B X 69 12 [some (.ref a), v1, v2, v3, v4] (.ref a :: st) h Q := PW_step rfl rfl rfl rfl
theorem u_69_11n : PW B X 69 11 [some .null, v1, v2, v3, v4] (st) h Q ↔ PW B X 69 12 [some .null, v1, v2, v3, v4] (.null :: st) h Q := PW_step rfl rfl rfl rfl
theorem u_69_12 : PW B X 69 12 lv (.ref a :: st) h Q ↔ pm_O (pm_gf (pm_at B h a) 1 2) (fun v => PW B X 69 15 lv (v :: st) h Q) := PW_getf rfl rfl
theorem u_69_15 : PW B X 69 15 lv (.int x :: st) h Q ↔ (if ¬ x = 0 then PW B X 69 48 lv (st) h Q else PW B X 69 18 lv (st) h Q) := PW_if rfl rfl pm_c_ne
theorem u_69_18 : PW B X 69 18 [v0, some (.long z), v2, v3, v4] (st) h Q ↔ PW B X 69 19 [v0, some (.long z), v2, v3, v4] (.long z :: st) h Q := PW_step rfl rfl rfl rfl
theorem u_69_19 : PW B X 69 19 lv (st) h Q ↔ PW B X 69 20 lv (.long 0 :: st) h Q := PW_step rfl rfl rfl rfl
theorem u_69_20 : PW B X 69 20 lv (.long w :: .long z :: st) h Q ↔ PW B X 69 21 lv (.int (lg_cmp z w) :: st) h Q := PW_step rfl rfl rfl rfl
theorem u_69_21 : PW B X 69 21 lv (.int x :: st) h Q ↔ (if ¬ x = 0 then PW B X 69 30 lv (st) h Q else PW B X 69 24 lv (st) h Q) := PW_if rfl rfl pm_c_ne
theorem u_69_24 : PW B X 69 24 [v0, v1, v2, some (.long z), v4] (st) h Q ↔ PW B X 69 25 [v0, v1, v2, some (.long z), v4] (.long z :: st) h Q := PW_step rfl rfl rfl rfl
theorem u_69_25 : PW B X 69 25 lv (st) h Q ↔ PW B X 69 26 lv (.long 0 :: st) h Q := PW_step rfl rfl rfl rfl
theorem u_69_26 : PW B X 69 26 lv (.long w :: .long z :: st) h Q ↔ PW B X 69 27 lv (.int (lg_cmp z w) :: st) h Q := PW_step rfl rfl rfl rfl
theorem u_69_27 : PW B X 69 27 lv (.int x :: st) h Q ↔ (if x = 0 then PW B X 69 48 lv (st) h Q else PW B X 69 30 lv (st) h Q) := PW_if rfl rfl pm_c_eq
theorem u_69_30 : PW B X 69 30 [some (.ref a), v1, v2, v3, v4] (st) h Q ↔ PW B X 69 31 [some (.ref a), v1, v2, v3, v4] (.ref a :: st) h Q := PW_step rfl rfl rfl rfl
theorem u_69_30n : PW B X 69 30 [some .null, v1, v2, v3, v4] (st) h Q ↔ PW B X 69 31 [some .null, v1, v2, v3, v4] (.null :: st) h Q := PW_step rfl rfl rfl rfl
theorem u_69_31 : PW B X 69 31 [v0, some (.long z), v2, v3, v4] (st) h Q ↔ PW B X 69 32 [v0, some (.long z), v2, v3, v4] (.long z :: st) h Q := PW_step rfl rfl rfl rfl
theorem u_69_32 : PW B X 69 32 lv (v :: .ref a :: st) h Q ↔ pm_O (pm_pf (pm_at B h a) 1 0 v) (fun e => PW B X 69 35 lv (st) (pm_set B h a e) Q) := PW_putf rfl rfl
theorem u_69_35 : PW B X 69 35 [some (.ref a), v1, v2, v3, v4] (st) h Q ↔ PW B X 69 36 [some (.ref a), v1, v2, v3, v4] (.ref a :: st) h Q := PW_step rfl rfl rfl rfl
theorem u_69_35n : PW B X 69 35 [some .null, v1, v2, v3, v4] (st) h Q ↔ PW B X 69 36 [some .null, v1, v2, v3, v4] (.null :: st) h Q := PW_step rfl rfl rfl rfl
theorem u_69_36 : PW B X 69 36 [v0, v1, v2, some (.long z), v4] (st) h Q ↔ PW B X 69 37 [v0, v1, v2, some (.long z), v4] (.long z :: st) h Q := PW_step rfl rfl rfl rfl
theorem u_69_37 : PW B X 69 37 lv (v :: .ref a :: st) h Q ↔ pm_O (pm_pf (pm_at B h a) 1 1 v) (fun e => PW B X 69 40 lv (st) (pm_set B h a e) Q) := PW_putf rfl rfl
theorem u_69_40 : PW B X 69 40 [some (.ref a), v1, v2, v3, v4] (st) h Q ↔ PW B X 69 41 [some (.ref a), v1, v2, v3, v4] (.ref a :: st) h Q := PW_step rfl rfl rfl rfl
theorem u_69_40n : PW B X 69 40 [some .null, v1, v2, v3, v4] (st) h Q ↔ PW B X 69 41 [some .null, v1, v2, v3, v4] (.null :: st) h Q := PW_step rfl rfl rfl rfl
theorem u_69_41 : PW B X 69 41 lv (st) h Q ↔ PW B X 69 42 lv (.int 1 :: st) h Q := PW_step rfl rfl rfl rfl
theorem u_69_42 : PW B X 69 42 lv (v :: .ref a :: st) h Q ↔ pm_O (pm_pf (pm_at B h a) 1 2 v) (fun e => PW B X 69 45 lv (st) (pm_set B h a e) Q) := PW_putf rfl rfl
theorem u_69_45 : PW B X 69 45 lv (st) h Q ↔ PW B X 69 69 lv (st) h Q := PW_step rfl rfl rfl rfl
theorem u_69_48 : PW B X 69 48 [some (.ref a), v1, v2, v3, v4] (st) h Q ↔ PW B X 69 49 [some (.ref a), v1, v2, v3, v4] (.ref a :: st) h Q := PW_step rfl rfl rfl rfl
theorem u_69_48n : PW B X 69 48 [some .null, v1, v2, v3, v4] (st) h Q ↔ PW B X 69 49 [some .null, v1, v2, v3, v4] (.null :: st) h Q := PW_step rfl rfl rfl rfl
theorem u_69_49 : PW B X 69 49 lv (.ref a :: st) h Q ↔ pm_O (pm_gf (pm_at B h a) 1 0) (fun v => PW B X 69 52 lv (v :: st) h Q) := PW_getf rfl rfl
theorem u_69_52 : PW B X 69 52 [v0, v1, v2, some (.long z), v4] (st) h Q ↔ PW B X 69 53 [v0, v1, v2, some (.long z), v4] (.long z :: st) h Q := PW_step rfl rfl rfl rfl
theorem u_69_53 : PW B X 69 53 lv (.long w :: .long z :: st) h Q ↔ PW B X 69 54 lv (.long (z * w) :: st) h Q := PW_step rfl rfl rfl rfl
theorem u_69_54 : PW B X 69 54 [some (.ref a), v1, v2, v3, v4] (st) h Q ↔ PW B X 69 55 [some (.ref a), v1, v2, v3, v4] (.ref a :: st) h Q := PW_step rfl rfl rfl rfl
theorem u_69_54n : PW B X 69 54 [some .null, v1, v2, v3, v4] (st) h Q ↔ PW B X 69 55 [some .null, v1, v2, v3, v4] (.null :: st) h Q := PW_step rfl rfl rfl rfl
theorem u_69_55 : PW B X 69 55 lv (.ref a :: st) h Q ↔ pm_O (pm_gf (pm_at B h a) 1 1) (fun v => PW B X 69 58 lv (v :: st) h Q) := PW_getf rfl rfl
theorem u_69_58 : PW B X 69 58 [v0, some (.long z), v2, v3, v4] (st) h Q ↔ PW B X 69 59 [v0, some (.long z), v2, v3, v4] (.long z :: st) h Q := PW_step rfl rfl rfl rfl
theorem u_69_59 : PW B X 69 59 lv (.long w :: .long z :: st) h Q ↔ PW B X 69 60 lv (.long (z * w) :: st) h Q := PW_step rfl rfl rfl rfl
theorem u_69_60 : PW B X 69 60 lv (.long w :: .long z :: st) h Q ↔ PW B X 69 61 lv (.int (lg_cmp z w) :: st) h Q := PW_step rfl rfl rfl rfl
theorem u_69_61 : PW B X 69 61 lv (.int x :: st) h Q ↔ (if x = 0 then PW B X 69 69 lv (st) h Q else PW B X 69 64 lv (st) h Q) := PW_if rfl rfl pm_c_eq
theorem u_69_64 : PW B X 69 64 [some (.ref a), v1, v2, v3, v4] (st) h Q ↔ PW B X 69 65 [some (.ref a), v1, v2, v3, v4] (.ref a :: st) h Q := PW_step rfl rfl rfl rfl
theorem u_69_64n : PW B X 69 64 [some .null, v1, v2, v3, v4] (st) h Q ↔ PW B X 69 65 [some .null, v1, v2, v3, v4] (.null :: st) h Q := PW_step rfl rfl rfl rfl
theorem u_69_65 : PW B X 69 65 lv (st) h Q ↔ PW B X 69 66 lv (.int 2 :: st) h Q := PW_step rfl rfl rfl rfl
theorem u_69_66 : PW B X 69 66 lv (v :: .ref a :: st) h Q ↔ pm_O (pm_pf (pm_at B h a) 1 2 v) (fun e => PW B X 69 69 lv (st) (pm_set B h a e) Q) := PW_putf rfl rfl
theorem u_69_69 : PW B X 69 69 lv ([]) h Q ↔ Q none h := PW_ret rfl rfl
-- 75 Bearing_fineGapAt
theorem u_75_0 : PW B X 75 0 lv (st) h Q ↔ PW B X 75 3 lv (.long 10000 :: st) h Q := PW_step rfl rfl rfl rfl
theorem u_75_3 : PW B X 75 3 [some (.ref a), v1] (st) h Q ↔ PW B X 75 4 [some (.ref a), v1] (.ref a :: st) h Q := PW_step rfl rfl rfl rfl
theorem u_75_3n : PW B X 75 3 [some .null, v1] (st) h Q ↔ PW B X 75 4 [some .null, v1] (.null :: st) h Q := PW_step rfl rfl rfl rfl
theorem u_75_4 : PW B X 75 4 lv (.ref a :: st) h Q ↔ pm_O (pm_gf (pm_at B h a) 9 7) (fun v => PW B X 75 7 lv (v :: st) h Q) := PW_getf rfl rfl
theorem u_75_7 : PW B X 75 7 lv (.int x :: st) h Q ↔ PW B X 75 8 lv (.long x.toInt64 :: st) h Q := PW_step rfl rfl rfl rfl
theorem u_75_8 : PW B X 75 8 lv (.long w :: .long z :: st) h Q ↔ PW B X 75 9 lv (.long (z * w) :: st) h Q := PW_step rfl rfl rfl rfl
theorem u_75_9 : PW B X 75 9 [some (.ref a), v1] (st) h Q ↔ PW B X 75 10 [some (.ref a), v1] (.ref a :: st) h Q := PW_step rfl rfl rfl rfl
theorem u_75_9n : PW B X 75 9 [some .null, v1] (st) h Q ↔ PW B X 75 10 [some .null, v1] (.null :: st) h Q := PW_step rfl rfl rfl rfl
theorem u_75_10 : PW B X 75 10 [v0, some (.int x)] (st) h Q ↔ PW B X 75 11 [v0, some (.int x)] (.int x :: st) h Q := PW_step rfl rfl rfl rfl
theorem u_75_11 : PW B X 75 11 [some (.ref a), v1] (st) h Q ↔ PW B X 75 12 [some (.ref a), v1] (.ref a :: st) h Q := PW_step rfl rfl rfl rfl
theorem u_75_11n : PW B X 75 11 [some .null, v1] (st) h Q ↔ PW B X 75 12 [some .null, v1] (.null :: st) h Q := PW_step rfl rfl rfl rfl
theorem u_75_12 : PW B X 75 12 lv (.ref a :: st) h Q ↔ pm_O (pm_gf (pm_at B h a) 9 8) (fun v => PW B X 75 15 lv (v :: st) h Q) := PW_getf rfl rfl
theorem u_75_15 : PW B X 75 15 lv (.int y :: .int x :: st) h Q ↔ PW B X 75 16 lv (.int (x - y) :: st) h Q := PW_step rfl rfl rfl rfl
theorem u_75_16 : PW B X 75 16 lv (.int x :: st) h Q ↔ PW B X 75 17 lv (.long x.toInt64 :: st) h Q := PW_step rfl rfl rfl rfl
theorem u_75_17 : PW B X 75 17 lv (.long p0 :: .ref a :: st) h Q ↔ (pm_w st ≤ 8 ∧ pm_io B h a 9 = true ∧ PW B X 76 0 [some (.ref a), some (.long p0), none] [] h (fun r h' => PW B X 75 20 lv (r.toList ++ st) h' Q)) := PW_cv (y := 76) (as := [.long p0]) (rest := st) rfl rfl rfl rfl rfl ⟨Nat.le_of_ble_eq_true rfl, Nat.le_of_ble_eq_true rfl, Nat.le_of_ble_eq_true rfl⟩
theorem u_75_20 : PW B X 75 20 lv (.long w :: .long z :: st) h Q ↔ PW B X 75 21 lv (.long (z - w) :: st) h Q := PW_step rfl rfl rfl rfl
theorem u_75_21 : PW B X 75 21 lv ([.long z]) h Q ↔ Q (some (.long z)) h := PW_ret rfl rfl
-- 76 Bearing_fineWay
theorem u_76_0 : PW B X 76 0 lv (st) h Q ↔ PW B X 76 3 lv (.long 12 :: st) h Q := PW_step rfl rfl rfl rfl
theorem u_76_3 : PW B X 76 3 [some (.ref a), v1, v2] (st) h Q ↔ PW B X 76 4 [some (.ref a), v1, v2] (.ref a :: st) h Q := PW_step rfl rfl rfl rfl
theorem u_76_3n : PW B X 76 3 [some .null, v1, v2] (st) h Q ↔ PW B X 76 4 [some .null, v1, v2] (.null :: st) h Q := PW_step rfl rfl rfl rfl
theorem u_76_4 : PW B X 76 4 lv (.ref a :: st) h Q ↔ pm_O (pm_gf (pm_at B h a) 9 6) (fun v => PW B X 76 7 lv (v :: st) h Q) := PW_getf rfl rfl
theorem u_76_7 : PW B X 76 7 lv (.int x :: st) h Q ↔ PW B X 76 8 lv (.long x.toInt64 :: st) h Q := PW_step rfl rfl rfl rfl
theorem u_76_8 : PW B X 76 8 lv (.long w :: .long z :: st) h Q ↔ PW B X 76 9 lv (.long (z * w) :: st) h Q := PW_step rfl rfl rfl rfl
theorem u_76_9 : PW B X 76 9 [v0, some (.long z), v2] (st) h Q ↔ PW B X 76 10 [v0, some (.long z), v2] (.long z :: st) h Q := PW_step rfl rfl rfl rfl
theorem u_76_10 : PW B X 76 10 lv (.long w :: .long z :: st) h Q ↔ PW B X 76 11 lv (.long (z * w) :: st) h Q := PW_step rfl rfl rfl rfl
theorem u_76_11 : PW B X 76 11 lv ([.long z]) h Q ↔ Q (some (.long z)) h := PW_ret rfl rfl
-- 82 Scales_isSizeAtMost
theorem u_82_0 : PW B X 82 0 [some (.ref a), v1, v2] (st) h Q ↔ PW B X 82 1 [some (.ref a), v1, v2] (.ref a :: st) h Q := PW_step rfl rfl rfl rfl
theorem u_82_0n : PW B X 82 0 [some .null, v1, v2] (st) h Q ↔ PW B X 82 1 [some .null, v1, v2] (.null :: st) h Q := PW_step rfl rfl rfl rfl
theorem u_82_1 : PW B X 82 1 lv (.ref a :: st) h Q ↔ pm_O (pm_gf (pm_at B h a) 4 1) (fun v => PW B X 82 4 lv (v :: st) h Q) := PW_getf rfl rfl
theorem u_82_4 : PW B X 82 4 [v0, some (.ref a), v2] (st) h Q ↔ PW B X 82 5 [v0, some (.ref a), v2] (.ref a :: st) h Q := PW_step rfl rfl rfl rfl
theorem u_82_4n : PW B X 82 4 [v0, some .null, v2] (st) h Q ↔ PW B X 82 5 [v0, some .null, v2] (.null :: st) h Q := PW_step rfl rfl rfl rfl
theorem u_82_5 : PW B X 82 5 lv (.ref a :: st) h Q ↔ pm_O (pm_gf (pm_at B h a) 8 2) (fun v => PW B X 82 8 lv (v :: st) h Q) := PW_getf rfl rfl
theorem u_82_8 : PW B X 82 8 lv (.ref r0 :: .ref a :: st) h Q ↔ (pm_w st ≤ 8 ∧ pm_io B h a 5 = true ∧ PW B X 46 0 [some (.ref a), some (.ref r0), none] [] h (fun r h' => PW B X 82 11 lv (r.toList ++ st) h' Q)) := PW_cv (y := 46) (as := [.ref r0]) (rest := st) rfl rfl rfl rfl rfl ⟨Nat.le_of_ble_eq_true rfl, Nat.le_of_ble_eq_true rfl, Nat.le_of_ble_eq_true rfl⟩
theorem u_82_11 : PW B X 82 11 [some (.ref a), v1, v2] (st) h Q ↔ PW B X 82 12 [some (.ref a), v1, v2] (.ref a :: st) h Q := PW_step rfl rfl rfl rfl
theorem u_82_11n : PW B X 82 11 [some .null, v1, v2] (st) h Q ↔ PW B X 82 12 [some .null, v1, v2] (.null :: st) h Q := PW_step rfl rfl rfl rfl
theorem u_82_12 : PW B X 82 12 lv (.ref a :: st) h Q ↔ pm_O (pm_gf (pm_at B h a) 4 1) (fun v => PW B X 82 15 lv (v :: st) h Q) := PW_getf rfl rfl
theorem u_82_15 : PW B X 82 15 [v0, v1, some (.int x)] (st) h Q ↔ PW B X 82 16 [v0, v1, some (.int x)] (.int x :: st) h Q := PW_step rfl rfl rfl rfl
theorem u_82_16 : PW B X 82 16 lv (.int x :: st) h Q ↔ PW B X 82 17 lv (.long x.toInt64 :: st) h Q := PW_step rfl rfl rfl rfl
theorem u_82_17 : PW B X 82 17 lv (.long p0 :: .ref a :: st) h Q ↔ (pm_w st ≤ 8 ∧ pm_io B h a 5 = true ∧ PW B X 44 0 [some (.ref a), some (.long p0), none, none, none, none, none, none] [] h (fun r h' => PW B X 82 20 lv (r.toList ++ st) h' Q)) := PW_cv (y := 44) (as := [.long p0]) (rest := st) rfl rfl rfl rfl rfl ⟨Nat.le_of_ble_eq_true rfl, Nat.le_of_ble_eq_true rfl, Nat.le_of_ble_eq_true rfl⟩
theorem u_82_20 : PW B X 82 20 [v0, some (.ref a), v2] (st) h Q ↔ PW B X 82 21 [v0, some (.ref a), v2] (.ref a :: st) h Q := PW_step rfl rfl rfl rfl
theorem u_82_20n : PW B X 82 20 [v0, some .null, v2] (st) h Q ↔ PW B X 82 21 [v0, some .null, v2] (.null :: st) h Q := PW_step rfl rfl rfl rfl
theorem u_82_21 : PW B X 82 21 lv (.ref a :: st) h Q ↔ pm_O (pm_gf (pm_at B h a) 8 1) (fun v => PW B X 82 24 lv (v :: st) h Q) := PW_getf rfl rfl
theorem u_82_24 : PW B X 82 24 [some (.ref a), v1, v2] (st) h Q ↔ PW B X 82 25 [some (.ref a), v1, v2] (.ref a :: st) h Q := PW_step rfl rfl rfl rfl
theorem u_82_24n : PW B X 82 24 [some .null, v1, v2] (st) h Q ↔ PW B X 82 25 [some .null, v1, v2] (.null :: st) h Q := PW_step rfl rfl rfl rfl
theorem u_82_25 : PW B X 82 25 lv (.ref a :: st) h Q ↔ pm_O (pm_gf (pm_at B h a) 4 1) (fun v => PW B X 82 28 lv (v :: st) h Q) := PW_getf rfl rfl
theorem u_82_28 : PW B X 82 28 lv (.ref r0 :: .ref a :: st) h Q ↔ (pm_w st ≤ 8 ∧ pm_io B h a 5 = true ∧ PW B X 50 0 [some (.ref a), some (.ref r0), none] [] h (fun r h' => PW B X 82 31 lv (r.toList ++ st) h' Q)) := PW_cv (y := 50) (as := [.ref r0]) (rest := st) rfl rfl rfl rfl rfl ⟨Nat.le_of_ble_eq_true rfl, Nat.le_of_ble_eq_true rfl, Nat.le_of_ble_eq_true rfl⟩
theorem u_82_31 : PW B X 82 31 lv (.int x :: st) h Q ↔ (if 0 < x then PW B X 82 38 lv (st) h Q else PW B X 82 34 lv (st) h Q) := PW_if rfl rfl pm_c_gt
theorem u_82_34 : PW B X 82 34 lv (st) h Q ↔ PW B X 82 35 lv (.int 1 :: st) h Q := PW_step rfl rfl rfl rfl
theorem u_82_35 : PW B X 82 35 lv (st) h Q ↔ PW B X 82 39 lv (st) h Q := PW_step rfl rfl rfl rfl
theorem u_82_38 : PW B X 82 38 lv (st) h Q ↔ PW B X 82 39 lv (.int 0 :: st) h Q := PW_step rfl rfl rfl rfl
theorem u_82_39 (hx : narrow .boolean (.int x) = .int x) : PW B X 82 39 lv ([.int x]) h Q ↔ Q (some (.int x)) h := PW_bret rfl rfl (by simp) hx
theorem u_82_39_0 : PW B X 82 39 lv ([.int 0]) h Q ↔ Q (some (.int 0)) h := u_82_39 rfl
theorem u_82_39_1 : PW B X 82 39 lv ([.int 1]) h Q ↔ Q (some (.int 1)) h := u_82_39 rfl
end

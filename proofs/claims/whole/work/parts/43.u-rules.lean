/-! RULES OF 43.u-rules, an instruction each, written by ugen.py: do not edit. -/
section
variable {B : Nat} {X : pm_X} {lv : pm_L} {st : List Value} {h : pm_H} {Q : Option Value → pm_H → Prop} {v : Value} {x y : Int32} {z w : Int64} {a b : Nat}
variable {v0 v1 v2 v3 v4 v5 v6 v7 v8 v9 v10 v11 v12 v13 v14 v15 : Option Value} {q0 q1 q2 q3 q4 q5 : Int32} {p0 p1 p2 p3 p4 p5 : Int64} {r0 r1 r2 r3 r4 r5 : Nat}
-- 2 RuleReader_init
theorem u_2_0 : PW B X 2 0 [some (.ref a)] (st) h Q ↔ PW B X 2 1 [some (.ref a)] (.ref a :: st) h Q := PW_step rfl rfl rfl rfl
theorem u_2_0n : PW B X 2 0 [some .null] (st) h Q ↔ PW B X 2 1 [some .null] (.null :: st) h Q := PW_step rfl rfl rfl rfl
theorem u_2_1 : PW B X 2 1 lv (.ref a :: st) h Q ↔ (pm_w st ≤ 8 ∧ PW B X 2 4 lv (st) h Q) := PW_obj rfl rfl rfl
theorem u_2_4 : PW B X 2 4 [some (.ref a)] (st) h Q ↔ PW B X 2 5 [some (.ref a)] (.ref a :: st) h Q := PW_step rfl rfl rfl rfl
theorem u_2_4n : PW B X 2 4 [some .null] (st) h Q ↔ PW B X 2 5 [some .null] (.null :: st) h Q := PW_step rfl rfl rfl rfl
theorem u_2_5 : PW B X 2 5 lv (st) h Q ↔ PW B X 2 8 lv (.int 200 :: st) h Q := PW_step rfl rfl rfl rfl
theorem u_2_8 : PW B X 2 8 lv (.int 200 :: st) h Q ↔ PW B X 2 10 lv (.ref (B + h.length) :: st) (h ++ [.inl (2, 200, .inl (fun _ => 0))]) Q := PW_step rfl rfl rfl rfl
theorem u_2_10 : PW B X 2 10 lv (v :: .ref a :: st) h Q ↔ pm_O (pm_pf (pm_at B h a) 2 0 v) (fun e => PW B X 2 13 lv (st) (pm_set B h a e) Q) := PW_putf rfl rfl
theorem u_2_13 : PW B X 2 13 lv ([]) h Q ↔ Q none h := PW_ret rfl rfl
-- 3 RuleSet_init
theorem u_3_0 : PW B X 3 0 [some (.ref a)] (st) h Q ↔ PW B X 3 1 [some (.ref a)] (.ref a :: st) h Q := PW_step rfl rfl rfl rfl
theorem u_3_0n : PW B X 3 0 [some .null] (st) h Q ↔ PW B X 3 1 [some .null] (.null :: st) h Q := PW_step rfl rfl rfl rfl
theorem u_3_1 : PW B X 3 1 lv (.ref a :: st) h Q ↔ (pm_w st ≤ 8 ∧ PW B X 3 4 lv (st) h Q) := PW_obj rfl rfl rfl
theorem u_3_4 : PW B X 3 4 [some (.ref a)] (st) h Q ↔ PW B X 3 5 [some (.ref a)] (.ref a :: st) h Q := PW_step rfl rfl rfl rfl
theorem u_3_4n : PW B X 3 4 [some .null] (st) h Q ↔ PW B X 3 5 [some .null] (.null :: st) h Q := PW_step rfl rfl rfl rfl
theorem u_3_5 : PW B X 3 5 lv (st) h Q ↔ PW B X 3 7 lv (.int 48 :: st) h Q := PW_step rfl rfl rfl rfl
theorem u_3_7 : PW B X 3 7 lv (.int 48 :: st) h Q ↔ PW B X 3 9 lv (.ref (B + h.length) :: st) (h ++ [.inl (2, 48, .inl (fun _ => 0))]) Q := PW_step rfl rfl rfl rfl
theorem u_3_9 : PW B X 3 9 lv (v :: .ref a :: st) h Q ↔ pm_O (pm_pf (pm_at B h a) 3 0 v) (fun e => PW B X 3 12 lv (st) (pm_set B h a e) Q) := PW_putf rfl rfl
theorem u_3_12 : PW B X 3 12 [some (.ref a)] (st) h Q ↔ PW B X 3 13 [some (.ref a)] (.ref a :: st) h Q := PW_step rfl rfl rfl rfl
theorem u_3_12n : PW B X 3 12 [some .null] (st) h Q ↔ PW B X 3 13 [some .null] (.null :: st) h Q := PW_step rfl rfl rfl rfl
theorem u_3_13 : PW B X 3 13 lv (st) h Q ↔ PW B X 3 15 lv (.int 48 :: st) h Q := PW_step rfl rfl rfl rfl
theorem u_3_15 : PW B X 3 15 lv (.int 48 :: st) h Q ↔ PW B X 3 17 lv (.ref (B + h.length) :: st) (h ++ [.inl (0, 48, .inl (fun _ => 0))]) Q := PW_step rfl rfl rfl rfl
theorem u_3_17 : PW B X 3 17 lv (v :: .ref a :: st) h Q ↔ pm_O (pm_pf (pm_at B h a) 3 1 v) (fun e => PW B X 3 20 lv (st) (pm_set B h a e) Q) := PW_putf rfl rfl
theorem u_3_20 : PW B X 3 20 [some (.ref a)] (st) h Q ↔ PW B X 3 21 [some (.ref a)] (.ref a :: st) h Q := PW_step rfl rfl rfl rfl
theorem u_3_20n : PW B X 3 20 [some .null] (st) h Q ↔ PW B X 3 21 [some .null] (.null :: st) h Q := PW_step rfl rfl rfl rfl
theorem u_3_21 : PW B X 3 21 lv (st) h Q ↔ PW B X 3 23 lv (.int 48 :: st) h Q := PW_step rfl rfl rfl rfl
theorem u_3_23 : PW B X 3 23 lv (.int 48 :: st) h Q ↔ PW B X 3 25 lv (.ref (B + h.length) :: st) (h ++ [.inl (0, 48, .inl (fun _ => 0))]) Q := PW_step rfl rfl rfl rfl
theorem u_3_25 : PW B X 3 25 lv (v :: .ref a :: st) h Q ↔ pm_O (pm_pf (pm_at B h a) 3 2 v) (fun e => PW B X 3 28 lv (st) (pm_set B h a e) Q) := PW_putf rfl rfl
theorem u_3_28 : PW B X 3 28 [some (.ref a)] (st) h Q ↔ PW B X 3 29 [some (.ref a)] (.ref a :: st) h Q := PW_step rfl rfl rfl rfl
theorem u_3_28n : PW B X 3 28 [some .null] (st) h Q ↔ PW B X 3 29 [some .null] (.null :: st) h Q := PW_step rfl rfl rfl rfl
theorem u_3_29 : PW B X 3 29 lv (st) h Q ↔ PW B X 3 31 lv (.int 48 :: st) h Q := PW_step rfl rfl rfl rfl
theorem u_3_31 : PW B X 3 31 lv (.int 48 :: st) h Q ↔ PW B X 3 33 lv (.ref (B + h.length) :: st) (h ++ [.inl (0, 48, .inl (fun _ => 0))]) Q := PW_step rfl rfl rfl rfl
theorem u_3_33 : PW B X 3 33 lv (v :: .ref a :: st) h Q ↔ pm_O (pm_pf (pm_at B h a) 3 3 v) (fun e => PW B X 3 36 lv (st) (pm_set B h a e) Q) := PW_putf rfl rfl
theorem u_3_36 : PW B X 3 36 [some (.ref a)] (st) h Q ↔ PW B X 3 37 [some (.ref a)] (.ref a :: st) h Q := PW_step rfl rfl rfl rfl
theorem u_3_36n : PW B X 3 36 [some .null] (st) h Q ↔ PW B X 3 37 [some .null] (.null :: st) h Q := PW_step rfl rfl rfl rfl
theorem u_3_37 : PW B X 3 37 lv (st) h Q ↔ PW B X 3 39 lv (.int 8 :: st) h Q := PW_step rfl rfl rfl rfl
theorem u_3_39 : PW B X 3 39 lv (.int 8 :: st) h Q ↔ PW B X 3 41 lv (.ref (B + h.length) :: st) (h ++ [.inl (0, 8, .inl (fun _ => 0))]) Q := PW_step rfl rfl rfl rfl
theorem u_3_41 : PW B X 3 41 lv (v :: .ref a :: st) h Q ↔ pm_O (pm_pf (pm_at B h a) 3 4 v) (fun e => PW B X 3 44 lv (st) (pm_set B h a e) Q) := PW_putf rfl rfl
theorem u_3_44 : PW B X 3 44 lv ([]) h Q ↔ Q none h := PW_ret rfl rfl
-- 6 Extremes_init
theorem u_6_0 : PW B X 6 0 [some (.ref a), v1] (st) h Q ↔ PW B X 6 1 [some (.ref a), v1] (.ref a :: st) h Q := PW_step rfl rfl rfl rfl
theorem u_6_0n : PW B X 6 0 [some .null, v1] (st) h Q ↔ PW B X 6 1 [some .null, v1] (.null :: st) h Q := PW_step rfl rfl rfl rfl
theorem u_6_1 : PW B X 6 1 lv (.ref a :: st) h Q ↔ (pm_w st ≤ 8 ∧ PW B X 6 4 lv (st) h Q) := PW_obj rfl rfl rfl
theorem u_6_4 : PW B X 6 4 [some (.ref a), v1] (st) h Q ↔ PW B X 6 5 [some (.ref a), v1] (.ref a :: st) h Q := PW_step rfl rfl rfl rfl
theorem u_6_4n : PW B X 6 4 [some .null, v1] (st) h Q ↔ PW B X 6 5 [some .null, v1] (.null :: st) h Q := PW_step rfl rfl rfl rfl
theorem u_6_5 : PW B X 6 5 lv (st) h Q ↔ PW B X 6 8 lv (.ref (B + h.length) :: st) (h ++ [.inr (7, [.null, .null, .null, .null, .null, .int 0])]) Q := PW_step rfl rfl rfl rfl
theorem u_6_8 : PW B X 6 8 lv (.ref a :: st) h Q ↔ PW B X 6 9 lv (.ref a :: .ref a :: st) h Q := PW_step rfl rfl rfl rfl
theorem u_6_8i : PW B X 6 8 lv (.int x :: st) h Q ↔ PW B X 6 9 lv (.int x :: .int x :: st) h Q := PW_step rfl rfl rfl rfl
theorem u_6_9 : PW B X 6 9 lv (.ref a :: st) h Q ↔ (pm_w st ≤ 8 ∧ PW B X 7 0 [some (.ref a)] [] h (fun r h' => PW B X 6 12 lv (r.toList ++ st) h' Q)) := PW_ci (y := 7) (as := []) (rest := st) rfl rfl rfl rfl rfl ⟨Nat.le_of_ble_eq_true rfl, Nat.le_of_ble_eq_true rfl, Nat.le_of_ble_eq_true rfl⟩
theorem u_6_12 : PW B X 6 12 lv (v :: .ref a :: st) h Q ↔ pm_O (pm_pf (pm_at B h a) 6 1 v) (fun e => PW B X 6 15 lv (st) (pm_set B h a e) Q) := PW_putf rfl rfl
theorem u_6_15 : PW B X 6 15 [some (.ref a), v1] (st) h Q ↔ PW B X 6 16 [some (.ref a), v1] (.ref a :: st) h Q := PW_step rfl rfl rfl rfl
theorem u_6_15n : PW B X 6 15 [some .null, v1] (st) h Q ↔ PW B X 6 16 [some .null, v1] (.null :: st) h Q := PW_step rfl rfl rfl rfl
theorem u_6_16 : PW B X 6 16 lv (st) h Q ↔ PW B X 6 19 lv (.ref (B + h.length) :: st) (h ++ [.inr (8, [.int 0, .null, .null])]) Q := PW_step rfl rfl rfl rfl
theorem u_6_19 : PW B X 6 19 lv (.ref a :: st) h Q ↔ PW B X 6 20 lv (.ref a :: .ref a :: st) h Q := PW_step rfl rfl rfl rfl
theorem u_6_19i : PW B X 6 19 lv (.int x :: st) h Q ↔ PW B X 6 20 lv (.int x :: .int x :: st) h Q := PW_step rfl rfl rfl rfl
theorem u_6_20 : PW B X 6 20 lv (.ref a :: st) h Q ↔ (pm_w st ≤ 8 ∧ PW B X 8 0 [some (.ref a)] [] h (fun r h' => PW B X 6 23 lv (r.toList ++ st) h' Q)) := PW_ci (y := 8) (as := []) (rest := st) rfl rfl rfl rfl rfl ⟨Nat.le_of_ble_eq_true rfl, Nat.le_of_ble_eq_true rfl, Nat.le_of_ble_eq_true rfl⟩
theorem u_6_23 : PW B X 6 23 lv (v :: .ref a :: st) h Q ↔ pm_O (pm_pf (pm_at B h a) 6 2 v) (fun e => PW B X 6 26 lv (st) (pm_set B h a e) Q) := PW_putf rfl rfl
theorem u_6_26 : PW B X 6 26 [some (.ref a), v1] (st) h Q ↔ PW B X 6 27 [some (.ref a), v1] (.ref a :: st) h Q := PW_step rfl rfl rfl rfl
theorem u_6_26n : PW B X 6 26 [some .null, v1] (st) h Q ↔ PW B X 6 27 [some .null, v1] (.null :: st) h Q := PW_step rfl rfl rfl rfl
theorem u_6_27 : PW B X 6 27 lv (st) h Q ↔ PW B X 6 30 lv (.ref (B + h.length) :: st) (h ++ [.inr (8, [.int 0, .null, .null])]) Q := PW_step rfl rfl rfl rfl
theorem u_6_30 : PW B X 6 30 lv (.ref a :: st) h Q ↔ PW B X 6 31 lv (.ref a :: .ref a :: st) h Q := PW_step rfl rfl rfl rfl
theorem u_6_30i : PW B X 6 30 lv (.int x :: st) h Q ↔ PW B X 6 31 lv (.int x :: .int x :: st) h Q := PW_step rfl rfl rfl rfl
theorem u_6_31 : PW B X 6 31 lv (.ref a :: st) h Q ↔ (pm_w st ≤ 8 ∧ PW B X 8 0 [some (.ref a)] [] h (fun r h' => PW B X 6 34 lv (r.toList ++ st) h' Q)) := PW_ci (y := 8) (as := []) (rest := st) rfl rfl rfl rfl rfl ⟨Nat.le_of_ble_eq_true rfl, Nat.le_of_ble_eq_true rfl, Nat.le_of_ble_eq_true rfl⟩
theorem u_6_34 : PW B X 6 34 lv (v :: .ref a :: st) h Q ↔ pm_O (pm_pf (pm_at B h a) 6 3 v) (fun e => PW B X 6 37 lv (st) (pm_set B h a e) Q) := PW_putf rfl rfl
theorem u_6_37 : PW B X 6 37 [some (.ref a), v1] (st) h Q ↔ PW B X 6 38 [some (.ref a), v1] (.ref a :: st) h Q := PW_step rfl rfl rfl rfl
theorem u_6_37n : PW B X 6 37 [some .null, v1] (st) h Q ↔ PW B X 6 38 [some .null, v1] (.null :: st) h Q := PW_step rfl rfl rfl rfl
theorem u_6_38 : PW B X 6 38 lv (st) h Q ↔ PW B X 6 41 lv (.ref (B + h.length) :: st) (h ++ [.inr (8, [.int 0, .null, .null])]) Q := PW_step rfl rfl rfl rfl
theorem u_6_41 : PW B X 6 41 lv (.ref a :: st) h Q ↔ PW B X 6 42 lv (.ref a :: .ref a :: st) h Q := PW_step rfl rfl rfl rfl
theorem u_6_41i : PW B X 6 41 lv (.int x :: st) h Q ↔ PW B X 6 42 lv (.int x :: .int x :: st) h Q := PW_step rfl rfl rfl rfl
theorem u_6_42 : PW B X 6 42 lv (.ref a :: st) h Q ↔ (pm_w st ≤ 8 ∧ PW B X 8 0 [some (.ref a)] [] h (fun r h' => PW B X 6 45 lv (r.toList ++ st) h' Q)) := PW_ci (y := 8) (as := []) (rest := st) rfl rfl rfl rfl rfl ⟨Nat.le_of_ble_eq_true rfl, Nat.le_of_ble_eq_true rfl, Nat.le_of_ble_eq_true rfl⟩
theorem u_6_45 : PW B X 6 45 lv (v :: .ref a :: st) h Q ↔ pm_O (pm_pf (pm_at B h a) 6 4 v) (fun e => PW B X 6 48 lv (st) (pm_set B h a e) Q) := PW_putf rfl rfl
theorem u_6_48 : PW B X 6 48 [some (.ref a), v1] (st) h Q ↔ PW B X 6 49 [some (.ref a), v1] (.ref a :: st) h Q := PW_step rfl rfl rfl rfl
theorem u_6_48n : PW B X 6 48 [some .null, v1] (st) h Q ↔ PW B X 6 49 [some .null, v1] (.null :: st) h Q := PW_step rfl rfl rfl rfl
theorem u_6_49 : PW B X 6 49 lv (st) h Q ↔ PW B X 6 50 lv (.int (-1) :: st) h Q := PW_step rfl rfl rfl rfl
theorem u_6_50 : PW B X 6 50 lv (v :: .ref a :: st) h Q ↔ pm_O (pm_pf (pm_at B h a) 6 5 v) (fun e => PW B X 6 53 lv (st) (pm_set B h a e) Q) := PW_putf rfl rfl
theorem u_6_53 : PW B X 6 53 [some (.ref a), v1] (st) h Q ↔ PW B X 6 54 [some (.ref a), v1] (.ref a :: st) h Q := PW_step rfl rfl rfl rfl
theorem u_6_53n : PW B X 6 53 [some .null, v1] (st) h Q ↔ PW B X 6 54 [some .null, v1] (.null :: st) h Q := PW_step rfl rfl rfl rfl
theorem u_6_54 : PW B X 6 54 lv (st) h Q ↔ PW B X 6 55 lv (.int (-1) :: st) h Q := PW_step rfl rfl rfl rfl
theorem u_6_55 : PW B X 6 55 lv (v :: .ref a :: st) h Q ↔ pm_O (pm_pf (pm_at B h a) 6 6 v) (fun e => PW B X 6 58 lv (st) (pm_set B h a e) Q) := PW_putf rfl rfl
theorem u_6_58 : PW B X 6 58 [some (.ref a), v1] (st) h Q ↔ PW B X 6 59 [some (.ref a), v1] (.ref a :: st) h Q := PW_step rfl rfl rfl rfl
theorem u_6_58n : PW B X 6 58 [some .null, v1] (st) h Q ↔ PW B X 6 59 [some .null, v1] (.null :: st) h Q := PW_step rfl rfl rfl rfl
theorem u_6_59 : PW B X 6 59 [v0, some (.ref a)] (st) h Q ↔ PW B X 6 60 [v0, some (.ref a)] (.ref a :: st) h Q := PW_step rfl rfl rfl rfl
theorem u_6_59n : PW B X 6 59 [v0, some .null] (st) h Q ↔ PW B X 6 60 [v0, some .null] (.null :: st) h Q := PW_step rfl rfl rfl rfl
theorem u_6_60 : PW B X 6 60 lv (v :: .ref a :: st) h Q ↔ pm_O (pm_pf (pm_at B h a) 6 0 v) (fun e => PW B X 6 63 lv (st) (pm_set B h a e) Q) := PW_putf rfl rfl
theorem u_6_63 : PW B X 6 63 lv ([]) h Q ↔ Q none h := PW_ret rfl rfl
-- 19 RuleReader_collect
theorem u_19_0 : PW B X 19 0 [some (.ref a), v1] (st) h Q ↔ PW B X 19 1 [some (.ref a), v1] (.ref a :: st) h Q := PW_step rfl rfl rfl rfl
theorem u_19_0n : PW B X 19 0 [some .null, v1] (st) h Q ↔ PW B X 19 1 [some .null, v1] (.null :: st) h Q := PW_step rfl rfl rfl rfl
theorem u_19_1 : PW B X 19 1 lv (.ref a :: st) h Q ↔ pm_O (pm_gf (pm_at B h a) 2 1) (fun v => PW B X 19 4 lv (v :: st) h Q) := PW_getf rfl rfl
theorem u_19_4 : PW B X 19 4 lv (st) h Q ↔ PW B X 19 7 lv (.int 200 :: st) h Q := PW_step rfl rfl rfl rfl
theorem u_19_7 : PW B X 19 7 lv (.int y :: .int x :: st) h Q ↔ (if y ≤ x then PW B X 19 21 lv (st) h Q else PW B X 19 10 lv (st) h Q) := PW_icmp rfl rfl pm_c_ge
theorem u_19_10 : PW B X 19 10 [v0, some (.int x)] (st) h Q ↔ PW B X 19 11 [v0, some (.int x)] (.int x :: st) h Q := PW_step rfl rfl rfl rfl
theorem u_19_11 : PW B X 19 11 lv (st) h Q ↔ PW B X 19 13 lv (.int 32 :: st) h Q := PW_step rfl rfl rfl rfl
theorem u_19_13 : PW B X 19 13 lv (st) h Q ↔ PW B X 19 15 lv (.int 126 :: st) h Q := PW_step rfl rfl rfl rfl
theorem u_19_15 : PW B X 19 15 lv (.int q2 :: .int q1 :: .int q0 :: st) h Q ↔ (pm_w st ≤ 8 ∧ PW B X 12 0 [some (.int q0), some (.int q1), some (.int q2)] [] h (fun r h' => PW B X 19 18 lv (r.toList ++ st) h' Q)) := PW_cs (y := 12) (as := [.int q0, .int q1, .int q2]) (rest := st) rfl rfl rfl rfl rfl ⟨Nat.le_of_ble_eq_true rfl, Nat.le_of_ble_eq_true rfl, Nat.le_of_ble_eq_true rfl⟩
theorem u_19_18 : PW B X 19 18 lv (.int x :: st) h Q ↔ (if ¬ x = 0 then PW B X 19 23 lv (st) h Q else PW B X 19 21 lv (st) h Q) := PW_if rfl rfl pm_c_ne
theorem u_19_21 : PW B X 19 21 lv (st) h Q ↔ PW B X 19 22 lv (.int 0 :: st) h Q := PW_step rfl rfl rfl rfl
theorem u_19_22 (hx : narrow .boolean (.int x) = .int x) : PW B X 19 22 lv ([.int x]) h Q ↔ Q (some (.int x)) h := PW_bret rfl rfl (by simp) hx
theorem u_19_22_0 : PW B X 19 22 lv ([.int 0]) h Q ↔ Q (some (.int 0)) h := u_19_22 rfl
theorem u_19_22_1 : PW B X 19 22 lv ([.int 1]) h Q ↔ Q (some (.int 1)) h := u_19_22 rfl
theorem u_19_23 : PW B X 19 23 [some (.ref a), v1] (st) h Q ↔ PW B X 19 24 [some (.ref a), v1] (.ref a :: st) h Q := PW_step rfl rfl rfl rfl
theorem u_19_23n : PW B X 19 23 [some .null, v1] (st) h Q ↔ PW B X 19 24 [some .null, v1] (.null :: st) h Q := PW_step rfl rfl rfl rfl
theorem u_19_24 : PW B X 19 24 lv (.ref a :: st) h Q ↔ pm_O (pm_gf (pm_at B h a) 2 0) (fun v => PW B X 19 27 lv (v :: st) h Q) := PW_getf rfl rfl
theorem u_19_27 : PW B X 19 27 [some (.ref a), v1] (st) h Q ↔ PW B X 19 28 [some (.ref a), v1] (.ref a :: st) h Q := PW_step rfl rfl rfl rfl
theorem u_19_27n : PW B X 19 27 [some .null, v1] (st) h Q ↔ PW B X 19 28 [some .null, v1] (.null :: st) h Q := PW_step rfl rfl rfl rfl
theorem u_19_28 : PW B X 19 28 lv (.ref a :: st) h Q ↔ pm_O (pm_gf (pm_at B h a) 2 1) (fun v => PW B X 19 31 lv (v :: st) h Q) := PW_getf rfl rfl
theorem u_19_31 : PW B X 19 31 [v0, some (.int x)] (st) h Q ↔ PW B X 19 32 [v0, some (.int x)] (.int x :: st) h Q := PW_step rfl rfl rfl rfl
theorem u_19_32 : PW B X 19 32 lv (.int x :: st) h Q ↔ PW B X 19 33 lv (.int (x.toUInt32 % 65536).toInt32 :: st) h Q := PW_step rfl rfl rfl rfl
theorem u_19_33 : PW B X 19 33 lv (.int y :: .int x :: .ref a :: st) h Q ↔ pm_O (pm_sti 2 (pm_at B h a) x y) (fun e => PW B X 19 34 lv (st) (pm_set B h a e) Q) := PW_cast rfl
theorem u_19_34 : PW B X 19 34 [some (.ref a), v1] (st) h Q ↔ PW B X 19 35 [some (.ref a), v1] (.ref a :: st) h Q := PW_step rfl rfl rfl rfl
theorem u_19_34n : PW B X 19 34 [some .null, v1] (st) h Q ↔ PW B X 19 35 [some .null, v1] (.null :: st) h Q := PW_step rfl rfl rfl rfl
theorem u_19_35 : PW B X 19 35 lv (.ref a :: st) h Q ↔ PW B X 19 36 lv (.ref a :: .ref a :: st) h Q := PW_step rfl rfl rfl rfl
theorem u_19_35i : PW B X 19 35 lv (.int x :: st) h Q ↔ PW B X 19 36 lv (.int x :: .int x :: st) h Q := PW_step rfl rfl rfl rfl
theorem u_19_36 : PW B X 19 36 lv (.ref a :: st) h Q ↔ pm_O (pm_gf (pm_at B h a) 2 1) (fun v => PW B X 19 39 lv (v :: st) h Q) := PW_getf rfl rfl
theorem u_19_39 : PW B X 19 39 lv (st) h Q ↔ PW B X 19 40 lv (.int 1 :: st) h Q := PW_step rfl rfl rfl rfl
theorem u_19_40 : PW B X 19 40 lv (.int y :: .int x :: st) h Q ↔ PW B X 19 41 lv (.int (x + y) :: st) h Q := PW_step rfl rfl rfl rfl
theorem u_19_41 : PW B X 19 41 lv (v :: .ref a :: st) h Q ↔ pm_O (pm_pf (pm_at B h a) 2 1 v) (fun e => PW B X 19 44 lv (st) (pm_set B h a e) Q) := PW_putf rfl rfl
theorem u_19_44 : PW B X 19 44 lv (st) h Q ↔ PW B X 19 45 lv (.int 1 :: st) h Q := PW_step rfl rfl rfl rfl
theorem u_19_45 (hx : narrow .boolean (.int x) = .int x) : PW B X 19 45 lv ([.int x]) h Q ↔ Q (some (.int x)) h := PW_bret rfl rfl (by simp) hx
theorem u_19_45_0 : PW B X 19 45 lv ([.int 0]) h Q ↔ Q (some (.int 0)) h := u_19_45 rfl
theorem u_19_45_1 : PW B X 19 45 lv ([.int 1]) h Q ↔ Q (some (.int 1)) h := u_19_45 rfl
-- 21 RuleReader_readInto
theorem u_21_0 : PW B X 21 0 [v0, some (.ref a), v2, v3] (st) h Q ↔ PW B X 21 1 [v0, some (.ref a), v2, v3] (.ref a :: st) h Q := PW_step rfl rfl rfl rfl
theorem u_21_0n : PW B X 21 0 [v0, some .null, v2, v3] (st) h Q ↔ PW B X 21 1 [v0, some .null, v2, v3] (.null :: st) h Q := PW_step rfl rfl rfl rfl
theorem u_21_1 : PW B X 21 1 lv (.ref a :: st) h Q ↔ (pm_w st ≤ 8 ∧ pm_io B h a 3 = true ∧ PW B X 22 0 [some (.ref a)] [] h (fun r h' => PW B X 21 4 lv (r.toList ++ st) h' Q)) := PW_cv (y := 22) (as := []) (rest := st) rfl rfl rfl rfl rfl ⟨Nat.le_of_ble_eq_true rfl, Nat.le_of_ble_eq_true rfl, Nat.le_of_ble_eq_true rfl⟩
theorem u_21_4 : PW B X 21 4 [some (.ref a), v1, v2, v3] (st) h Q ↔ PW B X 21 5 [some (.ref a), v1, v2, v3] (.ref a :: st) h Q := PW_step rfl rfl rfl rfl
theorem u_21_4n : PW B X 21 4 [some .null, v1, v2, v3] (st) h Q ↔ PW B X 21 5 [some .null, v1, v2, v3] (.null :: st) h Q := PW_step rfl rfl rfl rfl
theorem u_21_5 : PW B X 21 5 lv (st) h Q ↔ PW B X 21 6 lv (.int 0 :: st) h Q := PW_step rfl rfl rfl rfl
theorem u_21_6 : PW B X 21 6 lv (v :: .ref a :: st) h Q ↔ pm_O (pm_pf (pm_at B h a) 2 2 v) (fun e => PW B X 21 9 lv (st) (pm_set B h a e) Q) := PW_putf rfl rfl
theorem u_21_9 : PW B X 21 9 lv (st) h Q ↔ PW B X 21 10 lv (.int 1 :: st) h Q := PW_step rfl rfl rfl rfl
theorem u_21_10 : PW B X 21 10 [v0, v1, v2, v3] (.int x :: st) h Q ↔ PW B X 21 11 [v0, pm_c v1, some (.int x), v3] (st) h Q := PW_step rfl rfl rfl rfl
theorem u_21_11 : PW B X 21 11 lv (st) h Q ↔ PW B X 21 12 lv (.int 0 :: st) h Q := PW_step rfl rfl rfl rfl
theorem u_21_12 : PW B X 21 12 [v0, v1, v2, v3] (.int x :: st) h Q ↔ PW B X 21 13 [v0, v1, pm_c v2, some (.int x)] (st) h Q := PW_step rfl rfl rfl rfl
theorem u_21_13 : PW B X 21 13 [v0, v1, some (.int x), v3] (st) h Q ↔ PW B X 21 14 [v0, v1, some (.int x), v3] (.int x :: st) h Q := PW_step rfl rfl rfl rfl
theorem u_21_14 : PW B X 21 14 lv (.int x :: st) h Q ↔ (if x = 0 then PW B X 21 62 lv (st) h Q else PW B X 21 17 lv (st) h Q) := PW_if rfl rfl pm_c_eq
theorem u_21_17 : PW B X 21 17 [v0, v1, v2, some (.int x)] (st) h Q ↔ PW B X 21 18 [v0, v1, v2, some (.int x)] (.int x :: st) h Q := PW_step rfl rfl rfl rfl
theorem u_21_18 : PW B X 21 18 lv (st) h Q ↔ PW B X 21 20 lv (.int 8 :: st) h Q := PW_step rfl rfl rfl rfl
theorem u_21_20 : PW B X 21 20 lv (.int y :: .int x :: st) h Q ↔ (if y < x then PW B X 21 62 lv (st) h Q else PW B X 21 23 lv (st) h Q) := PW_icmp rfl rfl pm_c_gt
theorem u_21_23 : PW B X 21 23 [some (.ref a), v1, v2, v3] (st) h Q ↔ PW B X 21 24 [some (.ref a), v1, v2, v3] (.ref a :: st) h Q := PW_step rfl rfl rfl rfl
theorem u_21_23n : PW B X 21 23 [some .null, v1, v2, v3] (st) h Q ↔ PW B X 21 24 [some .null, v1, v2, v3] (.null :: st) h Q := PW_step rfl rfl rfl rfl
theorem u_21_24 : PW B X 21 24 lv (.ref a :: st) h Q ↔ (pm_w st ≤ 8 ∧ pm_io B h a 2 = true ∧ PW B X 23 0 [some (.ref a), none] [] h (fun r h' => PW B X 21 27 lv (r.toList ++ st) h' Q)) := PW_cv (y := 23) (as := []) (rest := st) rfl rfl rfl rfl rfl ⟨Nat.le_of_ble_eq_true rfl, Nat.le_of_ble_eq_true rfl, Nat.le_of_ble_eq_true rfl⟩
theorem u_21_27 : PW B X 21 27 [v0, some (.ref a), v2, v3] (st) h Q ↔ PW B X 21 28 [v0, some (.ref a), v2, v3] (.ref a :: st) h Q := PW_step rfl rfl rfl rfl
theorem u_21_27n : PW B X 21 27 [v0, some .null, v2, v3] (st) h Q ↔ PW B X 21 28 [v0, some .null, v2, v3] (.null :: st) h Q := PW_step rfl rfl rfl rfl
theorem u_21_28 : PW B X 21 28 lv (.ref a :: st) h Q ↔ (pm_w st ≤ 8 ∧ pm_io B h a 3 = true ∧ PW B X 24 0 [some (.ref a)] [] h (fun r h' => PW B X 21 31 lv (r.toList ++ st) h' Q)) := PW_cv (y := 24) (as := []) (rest := st) rfl rfl rfl rfl rfl ⟨Nat.le_of_ble_eq_true rfl, Nat.le_of_ble_eq_true rfl, Nat.le_of_ble_eq_true rfl⟩
theorem u_21_31 : PW B X 21 31 lv (.int x :: st) h Q ↔ (if x = 0 then PW B X 21 42 lv (st) h Q else PW B X 21 34 lv (st) h Q) := PW_if rfl rfl pm_c_eq
theorem u_21_34 : PW B X 21 34 [some (.ref a), v1, v2, v3] (st) h Q ↔ PW B X 21 35 [some (.ref a), v1, v2, v3] (.ref a :: st) h Q := PW_step rfl rfl rfl rfl
theorem u_21_34n : PW B X 21 34 [some .null, v1, v2, v3] (st) h Q ↔ PW B X 21 35 [some .null, v1, v2, v3] (.null :: st) h Q := PW_step rfl rfl rfl rfl
theorem u_21_35 : PW B X 21 35 [v0, some (.ref a), v2, v3] (st) h Q ↔ PW B X 21 36 [v0, some (.ref a), v2, v3] (.ref a :: st) h Q := PW_step rfl rfl rfl rfl
theorem u_21_35n : PW B X 21 35 [v0, some .null, v2, v3] (st) h Q ↔ PW B X 21 36 [v0, some .null, v2, v3] (.null :: st) h Q := PW_step rfl rfl rfl rfl
theorem u_21_36 : PW B X 21 36 lv (.ref r0 :: .ref a :: st) h Q ↔ (pm_w st ≤ 8 ∧ pm_io B h a 2 = true ∧ PW B X 25 0 [some (.ref a), some (.ref r0), none, none] [] h (fun r h' => PW B X 21 39 lv (r.toList ++ st) h' Q)) := PW_cv (y := 25) (as := [.ref r0]) (rest := st) rfl rfl rfl rfl rfl ⟨Nat.le_of_ble_eq_true rfl, Nat.le_of_ble_eq_true rfl, Nat.le_of_ble_eq_true rfl⟩
theorem u_21_39 : PW B X 21 39 lv (.int x :: st) h Q ↔ (if ¬ x = 0 then PW B X 21 49 lv (st) h Q else PW B X 21 42 lv (st) h Q) := PW_if rfl rfl pm_c_ne
theorem u_21_42 : PW B X 21 42 lv (st) h Q ↔ PW B X 21 43 lv (.int (-1) :: st) h Q := PW_step rfl rfl rfl rfl
theorem u_21_43 : PW B X 21 43 [some (.ref a), v1, v2, v3] (st) h Q ↔ PW B X 21 44 [some (.ref a), v1, v2, v3] (.ref a :: st) h Q := PW_step rfl rfl rfl rfl
theorem u_21_43n : PW B X 21 43 [some .null, v1, v2, v3] (st) h Q ↔ PW B X 21 44 [some .null, v1, v2, v3] (.null :: st) h Q := PW_step rfl rfl rfl rfl
theorem u_21_44 : PW B X 21 44 lv (.ref a :: st) h Q ↔ pm_O (pm_gf (pm_at B h a) 2 2) (fun v => PW B X 21 47 lv (v :: st) h Q) := PW_getf rfl rfl
theorem u_21_47 : PW B X 21 47 lv (.int y :: .int x :: st) h Q ↔ PW B X 21 48 lv (.int (x - y) :: st) h Q := PW_step rfl rfl rfl rfl
theorem u_21_48 : PW B X 21 48 lv ([.int x]) h Q ↔ Q (some (.int x)) h := PW_ret rfl rfl
theorem u_21_49 : PW B X 21 49 [some (.ref a), v1, v2, v3] (st) h Q ↔ PW B X 21 50 [some (.ref a), v1, v2, v3] (.ref a :: st) h Q := PW_step rfl rfl rfl rfl
theorem u_21_49n : PW B X 21 49 [some .null, v1, v2, v3] (st) h Q ↔ PW B X 21 50 [some .null, v1, v2, v3] (.null :: st) h Q := PW_step rfl rfl rfl rfl
theorem u_21_50 : PW B X 21 50 lv (st) h Q ↔ PW B X 21 52 lv (.int 59 :: st) h Q := PW_step rfl rfl rfl rfl
theorem u_21_52 : PW B X 21 52 lv (.int q0 :: .ref a :: st) h Q ↔ (pm_w st ≤ 8 ∧ pm_io B h a 2 = true ∧ PW B X 29 0 [some (.ref a), some (.int q0)] [] h (fun r h' => PW B X 21 55 lv (r.toList ++ st) h' Q)) := PW_cv (y := 29) (as := [.int q0]) (rest := st) rfl rfl rfl rfl rfl ⟨Nat.le_of_ble_eq_true rfl, Nat.le_of_ble_eq_true rfl, Nat.le_of_ble_eq_true rfl⟩
theorem u_21_55 : PW B X 21 55 [v0, v1, v2, v3] (.int x :: st) h Q ↔ PW B X 21 56 [v0, pm_c v1, some (.int x), v3] (st) h Q := PW_step rfl rfl rfl rfl
theorem u_21_56 : PW B X 21 56 [v0, v1, v2, some (.int x)] (st) h Q ↔ PW B X 21 59 [v0, v1, pm_c v2, some (.int (x + 1))] (st) h Q := PW_step rfl rfl rfl rfl
theorem u_21_59 : PW B X 21 59 lv (st) h Q ↔ PW B X 21 13 lv (st) h Q := PW_step rfl rfl rfl rfl
theorem u_21_62 : PW B X 21 62 [v0, some (.ref a), v2, v3] (st) h Q ↔ PW B X 21 63 [v0, some (.ref a), v2, v3] (.ref a :: st) h Q := PW_step rfl rfl rfl rfl
theorem u_21_62n : PW B X 21 62 [v0, some .null, v2, v3] (st) h Q ↔ PW B X 21 63 [v0, some .null, v2, v3] (.null :: st) h Q := PW_step rfl rfl rfl rfl
theorem u_21_63 : PW B X 21 63 lv (.ref a :: st) h Q ↔ pm_O (pm_gf (pm_at B h a) 3 5) (fun v => PW B X 21 66 lv (v :: st) h Q) := PW_getf rfl rfl
theorem u_21_66 : PW B X 21 66 lv ([.int x]) h Q ↔ Q (some (.int x)) h := PW_ret rfl rfl
-- 22 RuleSet_clear
theorem u_22_0 : PW B X 22 0 [some (.ref a)] (st) h Q ↔ PW B X 22 1 [some (.ref a)] (.ref a :: st) h Q := PW_step rfl rfl rfl rfl
theorem u_22_0n : PW B X 22 0 [some .null] (st) h Q ↔ PW B X 22 1 [some .null] (.null :: st) h Q := PW_step rfl rfl rfl rfl
theorem u_22_1 : PW B X 22 1 lv (st) h Q ↔ PW B X 22 2 lv (.int 0 :: st) h Q := PW_step rfl rfl rfl rfl
theorem u_22_2 : PW B X 22 2 lv (v :: .ref a :: st) h Q ↔ pm_O (pm_pf (pm_at B h a) 3 5 v) (fun e => PW B X 22 5 lv (st) (pm_set B h a e) Q) := PW_putf rfl rfl
theorem u_22_5 : PW B X 22 5 [some (.ref a)] (st) h Q ↔ PW B X 22 6 [some (.ref a)] (.ref a :: st) h Q := PW_step rfl rfl rfl rfl
theorem u_22_5n : PW B X 22 5 [some .null] (st) h Q ↔ PW B X 22 6 [some .null] (.null :: st) h Q := PW_step rfl rfl rfl rfl
theorem u_22_6 : PW B X 22 6 lv (st) h Q ↔ PW B X 22 7 lv (.int 0 :: st) h Q := PW_step rfl rfl rfl rfl
theorem u_22_7 : PW B X 22 7 lv (v :: .ref a :: st) h Q ↔ pm_O (pm_pf (pm_at B h a) 3 6 v) (fun e => PW B X 22 10 lv (st) (pm_set B h a e) Q) := PW_putf rfl rfl
theorem u_22_10 : PW B X 22 10 lv ([]) h Q ↔ Q none h := PW_ret rfl rfl
-- 23 RuleReader_skipBlanks
theorem u_23_0 : PW B X 23 0 [some (.ref a), v1] (st) h Q ↔ PW B X 23 1 [some (.ref a), v1] (.ref a :: st) h Q := PW_step rfl rfl rfl rfl
theorem u_23_0n : PW B X 23 0 [some .null, v1] (st) h Q ↔ PW B X 23 1 [some .null, v1] (.null :: st) h Q := PW_step rfl rfl rfl rfl
theorem u_23_1 : PW B X 23 1 lv (.ref a :: st) h Q ↔ pm_O (pm_gf (pm_at B h a) 2 2) (fun v => PW B X 23 4 lv (v :: st) h Q) := PW_getf rfl rfl
theorem u_23_4 : PW B X 23 4 [v0, v1] (.int x :: st) h Q ↔ PW B X 23 5 [pm_c v0, some (.int x)] (st) h Q := PW_step rfl rfl rfl rfl
theorem u_23_5 : PW B X 23 5 [v0, some (.int x)] (st) h Q ↔ PW B X 23 6 [v0, some (.int x)] (.int x :: st) h Q := PW_step rfl rfl rfl rfl
theorem u_23_6 : PW B X 23 6 [some (.ref a), v1] (st) h Q ↔ PW B X 23 7 [some (.ref a), v1] (.ref a :: st) h Q := PW_step rfl rfl rfl rfl
theorem u_23_6n : PW B X 23 6 [some .null, v1] (st) h Q ↔ PW B X 23 7 [some .null, v1] (.null :: st) h Q := PW_step rfl rfl rfl rfl
theorem u_23_7 : PW B X 23 7 lv (.ref a :: st) h Q ↔ pm_O (pm_gf (pm_at B h a) 2 1) (fun v => PW B X 23 10 lv (v :: st) h Q) := PW_getf rfl rfl
theorem u_23_10 : PW B X 23 10 lv (.int y :: .int x :: st) h Q ↔ (if y ≤ x then PW B X 23 37 lv (st) h Q else PW B X 23 13 lv (st) h Q) := PW_icmp rfl rfl pm_c_ge
theorem u_23_13 : PW B X 23 13 [some (.ref a), v1] (st) h Q ↔ PW B X 23 14 [some (.ref a), v1] (.ref a :: st) h Q := PW_step rfl rfl rfl rfl
theorem u_23_13n : PW B X 23 13 [some .null, v1] (st) h Q ↔ PW B X 23 14 [some .null, v1] (.null :: st) h Q := PW_step rfl rfl rfl rfl
theorem u_23_14 : PW B X 23 14 lv (.ref a :: st) h Q ↔ pm_O (pm_gf (pm_at B h a) 2 0) (fun v => PW B X 23 17 lv (v :: st) h Q) := PW_getf rfl rfl
theorem u_23_17 : PW B X 23 17 [v0, some (.int x)] (st) h Q ↔ PW B X 23 18 [v0, some (.int x)] (.int x :: st) h Q := PW_step rfl rfl rfl rfl
theorem u_23_18 : PW B X 23 18 lv (.int x :: .ref a :: st) h Q ↔ pm_O (pm_ldi 2 (pm_at B h a) x) (fun v => PW B X 23 19 lv (v :: st) h Q) := PW_cald rfl
theorem u_23_19 : PW B X 23 19 lv (st) h Q ↔ PW B X 23 21 lv (.int 32 :: st) h Q := PW_step rfl rfl rfl rfl
theorem u_23_21 : PW B X 23 21 lv (.int y :: .int x :: st) h Q ↔ (if ¬ x = y then PW B X 23 37 lv (st) h Q else PW B X 23 24 lv (st) h Q) := PW_icmp rfl rfl pm_c_ne
theorem u_23_24 : PW B X 23 24 [some (.ref a), v1] (st) h Q ↔ PW B X 23 25 [some (.ref a), v1] (.ref a :: st) h Q := PW_step rfl rfl rfl rfl
theorem u_23_24n : PW B X 23 24 [some .null, v1] (st) h Q ↔ PW B X 23 25 [some .null, v1] (.null :: st) h Q := PW_step rfl rfl rfl rfl
theorem u_23_25 : PW B X 23 25 [v0, some (.int x)] (st) h Q ↔ PW B X 23 26 [v0, some (.int x)] (.int x :: st) h Q := PW_step rfl rfl rfl rfl
theorem u_23_26 : PW B X 23 26 lv (st) h Q ↔ PW B X 23 27 lv (.int 1 :: st) h Q := PW_step rfl rfl rfl rfl
theorem u_23_27 : PW B X 23 27 lv (.int y :: .int x :: st) h Q ↔ PW B X 23 28 lv (.int (x + y) :: st) h Q := PW_step rfl rfl rfl rfl
theorem u_23_28 : PW B X 23 28 lv (v :: .ref a :: st) h Q ↔ pm_O (pm_pf (pm_at B h a) 2 2 v) (fun e => PW B X 23 31 lv (st) (pm_set B h a e) Q) := PW_putf rfl rfl
theorem u_23_31 : PW B X 23 31 [v0, some (.int x)] (st) h Q ↔ PW B X 23 34 [pm_c v0, some (.int (x + 1))] (st) h Q := PW_step rfl rfl rfl rfl
theorem u_23_34 : PW B X 23 34 lv (st) h Q ↔ PW B X 23 5 lv (st) h Q := PW_step rfl rfl rfl rfl
theorem u_23_37 : PW B X 23 37 lv ([]) h Q ↔ Q none h := PW_ret rfl rfl
-- 24 RuleSet_beginRule
theorem u_24_0 : PW B X 24 0 [some (.ref a)] (st) h Q ↔ PW B X 24 1 [some (.ref a)] (.ref a :: st) h Q := PW_step rfl rfl rfl rfl
theorem u_24_0n : PW B X 24 0 [some .null] (st) h Q ↔ PW B X 24 1 [some .null] (.null :: st) h Q := PW_step rfl rfl rfl rfl
theorem u_24_1 : PW B X 24 1 lv (.ref a :: st) h Q ↔ pm_O (pm_gf (pm_at B h a) 3 5) (fun v => PW B X 24 4 lv (v :: st) h Q) := PW_getf rfl rfl
theorem u_24_4 : PW B X 24 4 lv (st) h Q ↔ PW B X 24 6 lv (.int 8 :: st) h Q := PW_step rfl rfl rfl rfl
theorem u_24_6 : PW B X 24 6 lv (.int y :: .int x :: st) h Q ↔ (if x < y then PW B X 24 11 lv (st) h Q else PW B X 24 9 lv (st) h Q) := PW_icmp rfl rfl pm_c_lt
theorem u_24_9 : PW B X 24 9 lv (st) h Q ↔ PW B X 24 10 lv (.int 0 :: st) h Q := PW_step rfl rfl rfl rfl
theorem u_24_10 (hx : narrow .boolean (.int x) = .int x) : PW B X 24 10 lv ([.int x]) h Q ↔ Q (some (.int x)) h := PW_bret rfl rfl (by simp) hx
theorem u_24_10_0 : PW B X 24 10 lv ([.int 0]) h Q ↔ Q (some (.int 0)) h := u_24_10 rfl
theorem u_24_10_1 : PW B X 24 10 lv ([.int 1]) h Q ↔ Q (some (.int 1)) h := u_24_10 rfl
theorem u_24_11 : PW B X 24 11 [some (.ref a)] (st) h Q ↔ PW B X 24 12 [some (.ref a)] (.ref a :: st) h Q := PW_step rfl rfl rfl rfl
theorem u_24_11n : PW B X 24 11 [some .null] (st) h Q ↔ PW B X 24 12 [some .null] (.null :: st) h Q := PW_step rfl rfl rfl rfl
theorem u_24_12 : PW B X 24 12 lv (.ref a :: st) h Q ↔ pm_O (pm_gf (pm_at B h a) 3 4) (fun v => PW B X 24 15 lv (v :: st) h Q) := PW_getf rfl rfl
theorem u_24_15 : PW B X 24 15 [some (.ref a)] (st) h Q ↔ PW B X 24 16 [some (.ref a)] (.ref a :: st) h Q := PW_step rfl rfl rfl rfl
theorem u_24_15n : PW B X 24 15 [some .null] (st) h Q ↔ PW B X 24 16 [some .null] (.null :: st) h Q := PW_step rfl rfl rfl rfl
theorem u_24_16 : PW B X 24 16 lv (.ref a :: st) h Q ↔ pm_O (pm_gf (pm_at B h a) 3 5) (fun v => PW B X 24 19 lv (v :: st) h Q) := PW_getf rfl rfl
theorem u_24_19 : PW B X 24 19 lv (st) h Q ↔ PW B X 24 20 lv (.int 0 :: st) h Q := PW_step rfl rfl rfl rfl
theorem u_24_20 : PW B X 24 20 lv (.int y :: .int x :: .ref a :: st) h Q ↔ pm_O (pm_sti 0 (pm_at B h a) x y) (fun e => PW B X 24 21 lv (st) (pm_set B h a e) Q) := PW_iast rfl
theorem u_24_21 : PW B X 24 21 [some (.ref a)] (st) h Q ↔ PW B X 24 22 [some (.ref a)] (.ref a :: st) h Q := PW_step rfl rfl rfl rfl
theorem u_24_21n : PW B X 24 21 [some .null] (st) h Q ↔ PW B X 24 22 [some .null] (.null :: st) h Q := PW_step rfl rfl rfl rfl
theorem u_24_22 : PW B X 24 22 lv (.ref a :: st) h Q ↔ PW B X 24 23 lv (.ref a :: .ref a :: st) h Q := PW_step rfl rfl rfl rfl
theorem u_24_22i : PW B X 24 22 lv (.int x :: st) h Q ↔ PW B X 24 23 lv (.int x :: .int x :: st) h Q := PW_step rfl rfl rfl rfl
theorem u_24_23 : PW B X 24 23 lv (.ref a :: st) h Q ↔ pm_O (pm_gf (pm_at B h a) 3 5) (fun v => PW B X 24 26 lv (v :: st) h Q) := PW_getf rfl rfl
theorem u_24_26 : PW B X 24 26 lv (st) h Q ↔ PW B X 24 27 lv (.int 1 :: st) h Q := PW_step rfl rfl rfl rfl
theorem u_24_27 : PW B X 24 27 lv (.int y :: .int x :: st) h Q ↔ PW B X 24 28 lv (.int (x + y) :: st) h Q := PW_step rfl rfl rfl rfl
theorem u_24_28 : PW B X 24 28 lv (v :: .ref a :: st) h Q ↔ pm_O (pm_pf (pm_at B h a) 3 5 v) (fun e => PW B X 24 31 lv (st) (pm_set B h a e) Q) := PW_putf rfl rfl
theorem u_24_31 : PW B X 24 31 lv (st) h Q ↔ PW B X 24 32 lv (.int 1 :: st) h Q := PW_step rfl rfl rfl rfl
theorem u_24_32 (hx : narrow .boolean (.int x) = .int x) : PW B X 24 32 lv ([.int x]) h Q ↔ Q (some (.int x)) h := PW_bret rfl rfl (by simp) hx
theorem u_24_32_0 : PW B X 24 32 lv ([.int 0]) h Q ↔ Q (some (.int 0)) h := u_24_32 rfl
theorem u_24_32_1 : PW B X 24 32 lv ([.int 1]) h Q ↔ Q (some (.int 1)) h := u_24_32 rfl
-- 25 RuleReader_readRule
theorem u_25_0 : PW B X 25 0 lv (st) h Q ↔ PW B X 25 1 lv (.int 1 :: st) h Q := PW_step rfl rfl rfl rfl
theorem u_25_1 : PW B X 25 1 [v0, v1, v2, v3] (.int x :: st) h Q ↔ PW B X 25 2 [v0, pm_c v1, some (.int x), v3] (st) h Q := PW_step rfl rfl rfl rfl
theorem u_25_2 : PW B X 25 2 lv (st) h Q ↔ PW B X 25 3 lv (.int 0 :: st) h Q := PW_step rfl rfl rfl rfl
theorem u_25_3 : PW B X 25 3 [v0, v1, v2, v3] (.int x :: st) h Q ↔ PW B X 25 4 [v0, v1, pm_c v2, some (.int x)] (st) h Q := PW_step rfl rfl rfl rfl
theorem u_25_4 : PW B X 25 4 [v0, v1, some (.int x), v3] (st) h Q ↔ PW B X 25 5 [v0, v1, some (.int x), v3] (.int x :: st) h Q := PW_step rfl rfl rfl rfl
theorem u_25_5 : PW B X 25 5 lv (.int x :: st) h Q ↔ (if x = 0 then PW B X 25 67 lv (st) h Q else PW B X 25 8 lv (st) h Q) := PW_if rfl rfl pm_c_eq
theorem u_25_8 : PW B X 25 8 [v0, v1, v2, some (.int x)] (st) h Q ↔ PW B X 25 9 [v0, v1, v2, some (.int x)] (.int x :: st) h Q := PW_step rfl rfl rfl rfl
theorem u_25_9 : PW B X 25 9 lv (st) h Q ↔ PW B X 25 11 lv (.int 6 :: st) h Q := PW_step rfl rfl rfl rfl
theorem u_25_11 : PW B X 25 11 lv (.int y :: .int x :: st) h Q ↔ (if y < x then PW B X 25 67 lv (st) h Q else PW B X 25 14 lv (st) h Q) := PW_icmp rfl rfl pm_c_gt
theorem u_25_14 : PW B X 25 14 [v0, some (.ref a), v2, v3] (st) h Q ↔ PW B X 25 15 [v0, some (.ref a), v2, v3] (.ref a :: st) h Q := PW_step rfl rfl rfl rfl
theorem u_25_14n : PW B X 25 14 [v0, some .null, v2, v3] (st) h Q ↔ PW B X 25 15 [v0, some .null, v2, v3] (.null :: st) h Q := PW_step rfl rfl rfl rfl
theorem u_25_15 : PW B X 25 15 lv (.ref a :: st) h Q ↔ (pm_w st ≤ 8 ∧ pm_io B h a 3 = true ∧ PW B X 26 0 [some (.ref a)] [] h (fun r h' => PW B X 25 18 lv (r.toList ++ st) h' Q)) := PW_cv (y := 26) (as := []) (rest := st) rfl rfl rfl rfl rfl ⟨Nat.le_of_ble_eq_true rfl, Nat.le_of_ble_eq_true rfl, Nat.le_of_ble_eq_true rfl⟩
theorem u_25_18 : PW B X 25 18 lv (.int x :: st) h Q ↔ (if x = 0 then PW B X 25 29 lv (st) h Q else PW B X 25 21 lv (st) h Q) := PW_if rfl rfl pm_c_eq
theorem u_25_21 : PW B X 25 21 [some (.ref a), v1, v2, v3] (st) h Q ↔ PW B X 25 22 [some (.ref a), v1, v2, v3] (.ref a :: st) h Q := PW_step rfl rfl rfl rfl
theorem u_25_21n : PW B X 25 21 [some .null, v1, v2, v3] (st) h Q ↔ PW B X 25 22 [some .null, v1, v2, v3] (.null :: st) h Q := PW_step rfl rfl rfl rfl
theorem u_25_22 : PW B X 25 22 [v0, some (.ref a), v2, v3] (st) h Q ↔ PW B X 25 23 [v0, some (.ref a), v2, v3] (.ref a :: st) h Q := PW_step rfl rfl rfl rfl
theorem u_25_22n : PW B X 25 22 [v0, some .null, v2, v3] (st) h Q ↔ PW B X 25 23 [v0, some .null, v2, v3] (.null :: st) h Q := PW_step rfl rfl rfl rfl
theorem u_25_23 : PW B X 25 23 lv (.ref r0 :: .ref a :: st) h Q ↔ (pm_w st ≤ 8 ∧ pm_io B h a 2 = true ∧ PW B X 27 0 [some (.ref a), some (.ref r0), none, none, none, none] [] h (fun r h' => PW B X 25 26 lv (r.toList ++ st) h' Q)) := PW_cv (y := 27) (as := [.ref r0]) (rest := st) rfl rfl rfl rfl rfl ⟨Nat.le_of_ble_eq_true rfl, Nat.le_of_ble_eq_true rfl, Nat.le_of_ble_eq_true rfl⟩
theorem u_25_26 : PW B X 25 26 lv (.int x :: st) h Q ↔ (if ¬ x = 0 then PW B X 25 31 lv (st) h Q else PW B X 25 29 lv (st) h Q) := PW_if rfl rfl pm_c_ne
theorem u_25_29 : PW B X 25 29 lv (st) h Q ↔ PW B X 25 30 lv (.int 0 :: st) h Q := PW_step rfl rfl rfl rfl
theorem u_25_30 (hx : narrow .boolean (.int x) = .int x) : PW B X 25 30 lv ([.int x]) h Q ↔ Q (some (.int x)) h := PW_bret rfl rfl (by simp) hx
theorem u_25_30_0 : PW B X 25 30 lv ([.int 0]) h Q ↔ Q (some (.int 0)) h := u_25_30 rfl
theorem u_25_30_1 : PW B X 25 30 lv ([.int 1]) h Q ↔ Q (some (.int 1)) h := u_25_30 rfl
theorem u_25_31 : PW B X 25 31 [some (.ref a), v1, v2, v3] (st) h Q ↔ PW B X 25 32 [some (.ref a), v1, v2, v3] (.ref a :: st) h Q := PW_step rfl rfl rfl rfl
theorem u_25_31n : PW B X 25 31 [some .null, v1, v2, v3] (st) h Q ↔ PW B X 25 32 [some .null, v1, v2, v3] (.null :: st) h Q := PW_step rfl rfl rfl rfl
theorem u_25_32 : PW B X 25 32 lv (.ref a :: st) h Q ↔ (pm_w st ≤ 8 ∧ pm_io B h a 2 = true ∧ PW B X 23 0 [some (.ref a), none] [] h (fun r h' => PW B X 25 35 lv (r.toList ++ st) h' Q)) := PW_cv (y := 23) (as := []) (rest := st) rfl rfl rfl rfl rfl ⟨Nat.le_of_ble_eq_true rfl, Nat.le_of_ble_eq_true rfl, Nat.le_of_ble_eq_true rfl⟩
theorem u_25_35 : PW B X 25 35 [some (.ref a), v1, v2, v3] (st) h Q ↔ PW B X 25 36 [some (.ref a), v1, v2, v3] (.ref a :: st) h Q := PW_step rfl rfl rfl rfl
theorem u_25_35n : PW B X 25 35 [some .null, v1, v2, v3] (st) h Q ↔ PW B X 25 36 [some .null, v1, v2, v3] (.null :: st) h Q := PW_step rfl rfl rfl rfl
theorem u_25_36 : PW B X 25 36 lv (.ref a :: st) h Q ↔ pm_O (pm_gf (pm_at B h a) 2 2) (fun v => PW B X 25 39 lv (v :: st) h Q) := PW_getf rfl rfl
theorem u_25_39 : PW B X 25 39 [some (.ref a), v1, v2, v3] (st) h Q ↔ PW B X 25 40 [some (.ref a), v1, v2, v3] (.ref a :: st) h Q := PW_step rfl rfl rfl rfl
theorem u_25_39n : PW B X 25 39 [some .null, v1, v2, v3] (st) h Q ↔ PW B X 25 40 [some .null, v1, v2, v3] (.null :: st) h Q := PW_step rfl rfl rfl rfl
theorem u_25_40 : PW B X 25 40 lv (.ref a :: st) h Q ↔ pm_O (pm_gf (pm_at B h a) 2 1) (fun v => PW B X 25 43 lv (v :: st) h Q) := PW_getf rfl rfl
theorem u_25_43 : PW B X 25 43 lv (.int y :: .int x :: st) h Q ↔ (if y ≤ x then PW B X 25 59 lv (st) h Q else PW B X 25 46 lv (st) h Q) := PW_icmp rfl rfl pm_c_ge
theorem u_25_46 : PW B X 25 46 [some (.ref a), v1, v2, v3] (st) h Q ↔ PW B X 25 47 [some (.ref a), v1, v2, v3] (.ref a :: st) h Q := PW_step rfl rfl rfl rfl
theorem u_25_46n : PW B X 25 46 [some .null, v1, v2, v3] (st) h Q ↔ PW B X 25 47 [some .null, v1, v2, v3] (.null :: st) h Q := PW_step rfl rfl rfl rfl
theorem u_25_47 : PW B X 25 47 lv (.ref a :: st) h Q ↔ (pm_w st ≤ 8 ∧ pm_io B h a 2 = true ∧ PW B X 28 0 [some (.ref a)] [] h (fun r h' => PW B X 25 50 lv (r.toList ++ st) h' Q)) := PW_cv (y := 28) (as := []) (rest := st) rfl rfl rfl rfl rfl ⟨Nat.le_of_ble_eq_true rfl, Nat.le_of_ble_eq_true rfl, Nat.le_of_ble_eq_true rfl⟩
theorem u_25_50 : PW B X 25 50 lv (st) h Q ↔ PW B X 25 52 lv (.int 59 :: st) h Q := PW_step rfl rfl rfl rfl
theorem u_25_52 : PW B X 25 52 lv (.int y :: .int x :: st) h Q ↔ (if x = y then PW B X 25 59 lv (st) h Q else PW B X 25 55 lv (st) h Q) := PW_icmp rfl rfl pm_c_eq
theorem u_25_55 : PW B X 25 55 lv (st) h Q ↔ PW B X 25 56 lv (.int 1 :: st) h Q := PW_step rfl rfl rfl rfl
theorem u_25_56 : PW B X 25 56 lv (st) h Q ↔ PW B X 25 60 lv (st) h Q := PW_step rfl rfl rfl rfl
theorem u_25_59 : PW B X 25 59 lv (st) h Q ↔ PW B X 25 60 lv (.int 0 :: st) h Q := PW_step rfl rfl rfl rfl
theorem u_25_60 : PW B X 25 60 [v0, v1, v2, v3] (.int x :: st) h Q ↔ PW B X 25 61 [v0, pm_c v1, some (.int x), v3] (st) h Q := PW_step rfl rfl rfl rfl
theorem u_25_61 : PW B X 25 61 [v0, v1, v2, some (.int x)] (st) h Q ↔ PW B X 25 64 [v0, v1, pm_c v2, some (.int (x + 1))] (st) h Q := PW_step rfl rfl rfl rfl
theorem u_25_64 : PW B X 25 64 lv (st) h Q ↔ PW B X 25 4 lv (st) h Q := PW_step rfl rfl rfl rfl
theorem u_25_67 : PW B X 25 67 lv (st) h Q ↔ PW B X 25 68 lv (.int 1 :: st) h Q := PW_step rfl rfl rfl rfl
theorem u_25_68 (hx : narrow .boolean (.int x) = .int x) : PW B X 25 68 lv ([.int x]) h Q ↔ Q (some (.int x)) h := PW_bret rfl rfl (by simp) hx
theorem u_25_68_0 : PW B X 25 68 lv ([.int 0]) h Q ↔ Q (some (.int 0)) h := u_25_68 rfl
theorem u_25_68_1 : PW B X 25 68 lv ([.int 1]) h Q ↔ Q (some (.int 1)) h := u_25_68 rfl
-- 26 RuleSet_hasRoomForTerm
theorem u_26_0 : PW B X 26 0 [some (.ref a)] (st) h Q ↔ PW B X 26 1 [some (.ref a)] (.ref a :: st) h Q := PW_step rfl rfl rfl rfl
theorem u_26_0n : PW B X 26 0 [some .null] (st) h Q ↔ PW B X 26 1 [some .null] (.null :: st) h Q := PW_step rfl rfl rfl rfl
theorem u_26_1 : PW B X 26 1 lv (.ref a :: st) h Q ↔ pm_O (pm_gf (pm_at B h a) 3 5) (fun v => PW B X 26 4 lv (v :: st) h Q) := PW_getf rfl rfl
theorem u_26_4 : PW B X 26 4 lv (.int x :: st) h Q ↔ (if x ≤ 0 then PW B X 26 27 lv (st) h Q else PW B X 26 7 lv (st) h Q) := PW_if rfl rfl pm_c_le
theorem u_26_7 : PW B X 26 7 [some (.ref a)] (st) h Q ↔ PW B X 26 8 [some (.ref a)] (.ref a :: st) h Q := PW_step rfl rfl rfl rfl
theorem u_26_7n : PW B X 26 7 [some .null] (st) h Q ↔ PW B X 26 8 [some .null] (.null :: st) h Q := PW_step rfl rfl rfl rfl
theorem u_26_8 : PW B X 26 8 lv (.ref a :: st) h Q ↔ pm_O (pm_gf (pm_at B h a) 3 4) (fun v => PW B X 26 11 lv (v :: st) h Q) := PW_getf rfl rfl
theorem u_26_11 : PW B X 26 11 [some (.ref a)] (st) h Q ↔ PW B X 26 12 [some (.ref a)] (.ref a :: st) h Q := PW_step rfl rfl rfl rfl
theorem u_26_11n : PW B X 26 11 [some .null] (st) h Q ↔ PW B X 26 12 [some .null] (.null :: st) h Q := PW_step rfl rfl rfl rfl
theorem u_26_12 : PW B X 26 12 lv (.ref a :: st) h Q ↔ pm_O (pm_gf (pm_at B h a) 3 5) (fun v => PW B X 26 15 lv (v :: st) h Q) := PW_getf rfl rfl
theorem u_26_15 : PW B X 26 15 lv (st) h Q ↔ PW B X 26 16 lv (.int 1 :: st) h Q := PW_step rfl rfl rfl rfl
theorem u_26_16 : PW B X 26 16 lv (.int y :: .int x :: st) h Q ↔ PW B X 26 17 lv (.int (x - y) :: st) h Q := PW_step rfl rfl rfl rfl
theorem u_26_17 : PW B X 26 17 lv (.int x :: .ref a :: st) h Q ↔ pm_O (pm_ldi 0 (pm_at B h a) x) (fun v => PW B X 26 18 lv (v :: st) h Q) := PW_iald rfl rfl
theorem u_26_18 : PW B X 26 18 lv (st) h Q ↔ PW B X 26 20 lv (.int 6 :: st) h Q := PW_step rfl rfl rfl rfl
theorem u_26_20 : PW B X 26 20 lv (.int y :: .int x :: st) h Q ↔ (if y ≤ x then PW B X 26 27 lv (st) h Q else PW B X 26 23 lv (st) h Q) := PW_icmp rfl rfl pm_c_ge
theorem u_26_23 : PW B X 26 23 lv (st) h Q ↔ PW B X 26 24 lv (.int 1 :: st) h Q := PW_step rfl rfl rfl rfl
theorem u_26_24 : PW B X 26 24 lv (st) h Q ↔ PW B X 26 28 lv (st) h Q := PW_step rfl rfl rfl rfl
theorem u_26_27 : PW B X 26 27 lv (st) h Q ↔ PW B X 26 28 lv (.int 0 :: st) h Q := PW_step rfl rfl rfl rfl
theorem u_26_28 (hx : narrow .boolean (.int x) = .int x) : PW B X 26 28 lv ([.int x]) h Q ↔ Q (some (.int x)) h := PW_bret rfl rfl (by simp) hx
theorem u_26_28_0 : PW B X 26 28 lv ([.int 0]) h Q ↔ Q (some (.int 0)) h := u_26_28 rfl
theorem u_26_28_1 : PW B X 26 28 lv ([.int 1]) h Q ↔ Q (some (.int 1)) h := u_26_28 rfl
-- 27 RuleReader_readTerm
theorem u_27_0 : PW B X 27 0 [some (.ref a), v1, v2, v3, v4, v5] (st) h Q ↔ PW B X 27 1 [some (.ref a), v1, v2, v3, v4, v5] (.ref a :: st) h Q := PW_step rfl rfl rfl rfl
theorem u_27_0n : PW B X 27 0 [some .null, v1, v2, v3, v4, v5] (st) h Q ↔ PW B X 27 1 [some .null, v1, v2, v3, v4, v5] (.null :: st) h Q := PW_step rfl rfl rfl rfl
theorem u_27_1 : PW B X 27 1 lv (.ref a :: st) h Q ↔ (pm_w st ≤ 8 ∧ pm_io B h a 2 = true ∧ PW B X 28 0 [some (.ref a)] [] h (fun r h' => PW B X 27 4 lv (r.toList ++ st) h' Q)) := PW_cv (y := 28) (as := []) (rest := st) rfl rfl rfl rfl rfl ⟨Nat.le_of_ble_eq_true rfl, Nat.le_of_ble_eq_true rfl, Nat.le_of_ble_eq_true rfl⟩
theorem u_27_4 : PW B X 27 4 [v0, v1, v2, v3, v4, v5] (.int x :: st) h Q ↔ PW B X 27 5 [v0, pm_c v1, some (.int x), v3, v4, v5] (st) h Q := PW_step rfl rfl rfl rfl
theorem u_27_5 : PW B X 27 5 [some (.ref a), v1, v2, v3, v4, v5] (st) h Q ↔ PW B X 27 6 [some (.ref a), v1, v2, v3, v4, v5] (.ref a :: st) h Q := PW_step rfl rfl rfl rfl
theorem u_27_5n : PW B X 27 5 [some .null, v1, v2, v3, v4, v5] (st) h Q ↔ PW B X 27 6 [some .null, v1, v2, v3, v4, v5] (.null :: st) h Q := PW_step rfl rfl rfl rfl
theorem u_27_6 : PW B X 27 6 lv (st) h Q ↔ PW B X 27 8 lv (.int 43 :: st) h Q := PW_step rfl rfl rfl rfl
theorem u_27_8 : PW B X 27 8 lv (.int q0 :: .ref a :: st) h Q ↔ (pm_w st ≤ 8 ∧ pm_io B h a 2 = true ∧ PW B X 29 0 [some (.ref a), some (.int q0)] [] h (fun r h' => PW B X 27 11 lv (r.toList ++ st) h' Q)) := PW_cv (y := 29) (as := [.int q0]) (rest := st) rfl rfl rfl rfl rfl ⟨Nat.le_of_ble_eq_true rfl, Nat.le_of_ble_eq_true rfl, Nat.le_of_ble_eq_true rfl⟩
theorem u_27_11 : PW B X 27 11 lv (.int x :: st) h Q ↔ (if ¬ x = 0 then PW B X 27 34 lv (st) h Q else PW B X 27 14 lv (st) h Q) := PW_if rfl rfl pm_c_ne
theorem u_27_14 : PW B X 27 14 [some (.ref a), v1, v2, v3, v4, v5] (st) h Q ↔ PW B X 27 15 [some (.ref a), v1, v2, v3, v4, v5] (.ref a :: st) h Q := PW_step rfl rfl rfl rfl
theorem u_27_14n : PW B X 27 14 [some .null, v1, v2, v3, v4, v5] (st) h Q ↔ PW B X 27 15 [some .null, v1, v2, v3, v4, v5] (.null :: st) h Q := PW_step rfl rfl rfl rfl
theorem u_27_15 : PW B X 27 15 lv (st) h Q ↔ PW B X 27 17 lv (.int 45 :: st) h Q := PW_step rfl rfl rfl rfl
theorem u_27_17 : PW B X 27 17 lv (.int q0 :: .ref a :: st) h Q ↔ (pm_w st ≤ 8 ∧ pm_io B h a 2 = true ∧ PW B X 29 0 [some (.ref a), some (.int q0)] [] h (fun r h' => PW B X 27 20 lv (r.toList ++ st) h' Q)) := PW_cv (y := 29) (as := [.int q0]) (rest := st) rfl rfl rfl rfl rfl ⟨Nat.le_of_ble_eq_true rfl, Nat.le_of_ble_eq_true rfl, Nat.le_of_ble_eq_true rfl⟩
theorem u_27_20 : PW B X 27 20 lv (.int x :: st) h Q ↔ (if ¬ x = 0 then PW B X 27 34 lv (st) h Q else PW B X 27 23 lv (st) h Q) := PW_if rfl rfl pm_c_ne
theorem u_27_23 : PW B X 27 23 [some (.ref a), v1, v2, v3, v4, v5] (st) h Q ↔ PW B X 27 24 [some (.ref a), v1, v2, v3, v4, v5] (.ref a :: st) h Q := PW_step rfl rfl rfl rfl
theorem u_27_23n : PW B X 27 23 [some .null, v1, v2, v3, v4, v5] (st) h Q ↔ PW B X 27 24 [some .null, v1, v2, v3, v4, v5] (.null :: st) h Q := PW_step rfl rfl rfl rfl
theorem u_27_24 : PW B X 27 24 lv (st) h Q ↔ PW B X 27 26 lv (.int 42 :: st) h Q := PW_step rfl rfl rfl rfl
theorem u_27_26 : PW B X 27 26 lv (.int q0 :: .ref a :: st) h Q ↔ (pm_w st ≤ 8 ∧ pm_io B h a 2 = true ∧ PW B X 29 0 [some (.ref a), some (.int q0)] [] h (fun r h' => PW B X 27 29 lv (r.toList ++ st) h' Q)) := PW_cv (y := 29) (as := [.int q0]) (rest := st) rfl rfl rfl rfl rfl ⟨Nat.le_of_ble_eq_true rfl, Nat.le_of_ble_eq_true rfl, Nat.le_of_ble_eq_true rfl⟩
theorem u_27_29 : PW B X 27 29 lv (.int x :: st) h Q ↔ (if ¬ x = 0 then PW B X 27 34 lv (st) h Q else PW B X 27 32 lv (st) h Q) := PW_if rfl rfl pm_c_ne
theorem u_27_32 : PW B X 27 32 lv (st) h Q ↔ PW B X 27 33 lv (.int 0 :: st) h Q := PW_step rfl rfl rfl rfl
theorem u_27_33 (hx : narrow .boolean (.int x) = .int x) : PW B X 27 33 lv ([.int x]) h Q ↔ Q (some (.int x)) h := PW_bret rfl rfl (by simp) hx
theorem u_27_33_0 : PW B X 27 33 lv ([.int 0]) h Q ↔ Q (some (.int 0)) h := u_27_33 rfl
theorem u_27_33_1 : PW B X 27 33 lv ([.int 1]) h Q ↔ Q (some (.int 1)) h := u_27_33 rfl
theorem u_27_34 : PW B X 27 34 lv (st) h Q ↔ PW B X 27 35 lv (.int 1 :: st) h Q := PW_step rfl rfl rfl rfl
theorem u_27_35 : PW B X 27 35 [v0, v1, v2, v3, v4, v5] (.int x :: st) h Q ↔ PW B X 27 36 [v0, v1, pm_c v2, some (.int x), v4, v5] (st) h Q := PW_step rfl rfl rfl rfl
theorem u_27_36 : PW B X 27 36 lv (st) h Q ↔ PW B X 27 37 lv (.int 1 :: st) h Q := PW_step rfl rfl rfl rfl
theorem u_27_37 : PW B X 27 37 [v0, v1, v2, v3, v4, v5] (.int x :: st) h Q ↔ PW B X 27 39 [v0, v1, v2, pm_c v3, some (.int x), v5] (st) h Q := PW_step rfl rfl rfl rfl
theorem u_27_39 : PW B X 27 39 [some (.ref a), v1, v2, v3, v4, v5] (st) h Q ↔ PW B X 27 40 [some (.ref a), v1, v2, v3, v4, v5] (.ref a :: st) h Q := PW_step rfl rfl rfl rfl
theorem u_27_39n : PW B X 27 39 [some .null, v1, v2, v3, v4, v5] (st) h Q ↔ PW B X 27 40 [some .null, v1, v2, v3, v4, v5] (.null :: st) h Q := PW_step rfl rfl rfl rfl
theorem u_27_40 : PW B X 27 40 lv (.ref a :: st) h Q ↔ (pm_w st ≤ 8 ∧ pm_io B h a 2 = true ∧ PW B X 30 0 [some (.ref a)] [] h (fun r h' => PW B X 27 43 lv (r.toList ++ st) h' Q)) := PW_cv (y := 30) (as := []) (rest := st) rfl rfl rfl rfl rfl ⟨Nat.le_of_ble_eq_true rfl, Nat.le_of_ble_eq_true rfl, Nat.le_of_ble_eq_true rfl⟩
theorem u_27_43 : PW B X 27 43 lv (.int x :: st) h Q ↔ (if x = 0 then PW B X 27 70 lv (st) h Q else PW B X 27 46 lv (st) h Q) := PW_if rfl rfl pm_c_eq
theorem u_27_46 : PW B X 27 46 [some (.ref a), v1, v2, v3, v4, v5] (st) h Q ↔ PW B X 27 47 [some (.ref a), v1, v2, v3, v4, v5] (.ref a :: st) h Q := PW_step rfl rfl rfl rfl
theorem u_27_46n : PW B X 27 46 [some .null, v1, v2, v3, v4, v5] (st) h Q ↔ PW B X 27 47 [some .null, v1, v2, v3, v4, v5] (.null :: st) h Q := PW_step rfl rfl rfl rfl
theorem u_27_47 : PW B X 27 47 lv (.ref a :: st) h Q ↔ (pm_w st ≤ 8 ∧ pm_io B h a 2 = true ∧ PW B X 31 0 [some (.ref a), none, none, none, none] [] h (fun r h' => PW B X 27 50 lv (r.toList ++ st) h' Q)) := PW_cv (y := 31) (as := []) (rest := st) rfl rfl rfl rfl rfl ⟨Nat.le_of_ble_eq_true rfl, Nat.le_of_ble_eq_true rfl, Nat.le_of_ble_eq_true rfl⟩
theorem u_27_50 : PW B X 27 50 [v0, v1, v2, v3, v4, v5] (.int x :: st) h Q ↔ PW B X 27 51 [v0, v1, pm_c v2, some (.int x), v4, v5] (st) h Q := PW_step rfl rfl rfl rfl
theorem u_27_51 : PW B X 27 51 [v0, v1, v2, some (.int x), v4, v5] (st) h Q ↔ PW B X 27 52 [v0, v1, v2, some (.int x), v4, v5] (.int x :: st) h Q := PW_step rfl rfl rfl rfl
theorem u_27_52 : PW B X 27 52 lv (.int x :: st) h Q ↔ (if x = 0 then PW B X 27 70 lv (st) h Q else PW B X 27 55 lv (st) h Q) := PW_if rfl rfl pm_c_eq
theorem u_27_55 : PW B X 27 55 [some (.ref a), v1, v2, v3, v4, v5] (st) h Q ↔ PW B X 27 56 [some (.ref a), v1, v2, v3, v4, v5] (.ref a :: st) h Q := PW_step rfl rfl rfl rfl
theorem u_27_55n : PW B X 27 55 [some .null, v1, v2, v3, v4, v5] (st) h Q ↔ PW B X 27 56 [some .null, v1, v2, v3, v4, v5] (.null :: st) h Q := PW_step rfl rfl rfl rfl
theorem u_27_56 : PW B X 27 56 lv (st) h Q ↔ PW B X 27 58 lv (.int 47 :: st) h Q := PW_step rfl rfl rfl rfl
theorem u_27_58 : PW B X 27 58 lv (.int q0 :: .ref a :: st) h Q ↔ (pm_w st ≤ 8 ∧ pm_io B h a 2 = true ∧ PW B X 29 0 [some (.ref a), some (.int q0)] [] h (fun r h' => PW B X 27 61 lv (r.toList ++ st) h' Q)) := PW_cv (y := 29) (as := [.int q0]) (rest := st) rfl rfl rfl rfl rfl ⟨Nat.le_of_ble_eq_true rfl, Nat.le_of_ble_eq_true rfl, Nat.le_of_ble_eq_true rfl⟩
theorem u_27_61 : PW B X 27 61 lv (.int x :: st) h Q ↔ (if x = 0 then PW B X 27 70 lv (st) h Q else PW B X 27 64 lv (st) h Q) := PW_if rfl rfl pm_c_eq
theorem u_27_64 : PW B X 27 64 [some (.ref a), v1, v2, v3, v4, v5] (st) h Q ↔ PW B X 27 65 [some (.ref a), v1, v2, v3, v4, v5] (.ref a :: st) h Q := PW_step rfl rfl rfl rfl
theorem u_27_64n : PW B X 27 64 [some .null, v1, v2, v3, v4, v5] (st) h Q ↔ PW B X 27 65 [some .null, v1, v2, v3, v4, v5] (.null :: st) h Q := PW_step rfl rfl rfl rfl
theorem u_27_65 : PW B X 27 65 lv (.ref a :: st) h Q ↔ (pm_w st ≤ 8 ∧ pm_io B h a 2 = true ∧ PW B X 31 0 [some (.ref a), none, none, none, none] [] h (fun r h' => PW B X 27 68 lv (r.toList ++ st) h' Q)) := PW_cv (y := 31) (as := []) (rest := st) rfl rfl rfl rfl rfl ⟨Nat.le_of_ble_eq_true rfl, Nat.le_of_ble_eq_true rfl, Nat.le_of_ble_eq_true rfl⟩
theorem u_27_68 : PW B X 27 68 [v0, v1, v2, v3, v4, v5] (.int x :: st) h Q ↔ PW B X 27 70 [v0, v1, v2, pm_c v3, some (.int x), v5] (st) h Q := PW_step rfl rfl rfl rfl
theorem u_27_70 : PW B X 27 70 [v0, v1, v2, some (.int x), v4, v5] (st) h Q ↔ PW B X 27 71 [v0, v1, v2, some (.int x), v4, v5] (.int x :: st) h Q := PW_step rfl rfl rfl rfl
theorem u_27_71 : PW B X 27 71 lv (.int x :: st) h Q ↔ (if x = 0 then PW B X 27 79 lv (st) h Q else PW B X 27 74 lv (st) h Q) := PW_if rfl rfl pm_c_eq
theorem u_27_74 : PW B X 27 74 [v0, v1, v2, v3, some (.int x), v5] (st) h Q ↔ PW B X 27 76 [v0, v1, v2, v3, some (.int x), v5] (.int x :: st) h Q := PW_step rfl rfl rfl rfl
theorem u_27_76 : PW B X 27 76 lv (.int x :: st) h Q ↔ (if ¬ x = 0 then PW B X 27 81 lv (st) h Q else PW B X 27 79 lv (st) h Q) := PW_if rfl rfl pm_c_ne
theorem u_27_79 : PW B X 27 79 lv (st) h Q ↔ PW B X 27 80 lv (.int 0 :: st) h Q := PW_step rfl rfl rfl rfl
theorem u_27_80 (hx : narrow .boolean (.int x) = .int x) : PW B X 27 80 lv ([.int x]) h Q ↔ Q (some (.int x)) h := PW_bret rfl rfl (by simp) hx
theorem u_27_80_0 : PW B X 27 80 lv ([.int 0]) h Q ↔ Q (some (.int 0)) h := u_27_80 rfl
theorem u_27_80_1 : PW B X 27 80 lv ([.int 1]) h Q ↔ Q (some (.int 1)) h := u_27_80 rfl
theorem u_27_81 : PW B X 27 81 [some (.ref a), v1, v2, v3, v4, v5] (st) h Q ↔ PW B X 27 82 [some (.ref a), v1, v2, v3, v4, v5] (.ref a :: st) h Q := PW_step rfl rfl rfl rfl
theorem u_27_81n : PW B X 27 81 [some .null, v1, v2, v3, v4, v5] (st) h Q ↔ PW B X 27 82 [some .null, v1, v2, v3, v4, v5] (.null :: st) h Q := PW_step rfl rfl rfl rfl
theorem u_27_82 : PW B X 27 82 lv (.ref a :: st) h Q ↔ (pm_w st ≤ 8 ∧ pm_io B h a 2 = true ∧ PW B X 28 0 [some (.ref a)] [] h (fun r h' => PW B X 27 85 lv (r.toList ++ st) h' Q)) := PW_cv (y := 28) (as := []) (rest := st) rfl rfl rfl rfl rfl ⟨Nat.le_of_ble_eq_true rfl, Nat.le_of_ble_eq_true rfl, Nat.le_of_ble_eq_true rfl⟩
theorem u_27_85 : PW B X 27 85 [v0, v1, v2, v3, v4, v5] (.int x :: st) h Q ↔ PW B X 27 87 [v0, v1, v2, v3, pm_c v4, some (.int x)] (st) h Q := PW_step rfl rfl rfl rfl
theorem u_27_87 : PW B X 27 87 [v0, v1, v2, v3, v4, some (.int x)] (st) h Q ↔ PW B X 27 89 [v0, v1, v2, v3, v4, some (.int x)] (.int x :: st) h Q := PW_step rfl rfl rfl rfl
theorem u_27_89 : PW B X 27 89 lv (st) h Q ↔ PW B X 27 91 lv (.int 97 :: st) h Q := PW_step rfl rfl rfl rfl
theorem u_27_91 : PW B X 27 91 lv (st) h Q ↔ PW B X 27 93 lv (.int 104 :: st) h Q := PW_step rfl rfl rfl rfl
theorem u_27_93 : PW B X 27 93 lv (.int q2 :: .int q1 :: .int q0 :: st) h Q ↔ (pm_w st ≤ 8 ∧ PW B X 12 0 [some (.int q0), some (.int q1), some (.int q2)] [] h (fun r h' => PW B X 27 96 lv (r.toList ++ st) h' Q)) := PW_cs (y := 12) (as := [.int q0, .int q1, .int q2]) (rest := st) rfl rfl rfl rfl rfl ⟨Nat.le_of_ble_eq_true rfl, Nat.le_of_ble_eq_true rfl, Nat.le_of_ble_eq_true rfl⟩
theorem u_27_96 : PW B X 27 96 lv (.int x :: st) h Q ↔ (if ¬ x = 0 then PW B X 27 101 lv (st) h Q else PW B X 27 99 lv (st) h Q) := PW_if rfl rfl pm_c_ne
theorem u_27_99 : PW B X 27 99 lv (st) h Q ↔ PW B X 27 100 lv (.int 0 :: st) h Q := PW_step rfl rfl rfl rfl
theorem u_27_100 (hx : narrow .boolean (.int x) = .int x) : PW B X 27 100 lv ([.int x]) h Q ↔ Q (some (.int x)) h := PW_bret rfl rfl (by simp) hx
theorem u_27_100_0 : PW B X 27 100 lv ([.int 0]) h Q ↔ Q (some (.int 0)) h := u_27_100 rfl
theorem u_27_100_1 : PW B X 27 100 lv ([.int 1]) h Q ↔ Q (some (.int 1)) h := u_27_100 rfl
theorem u_27_101 : PW B X 27 101 [some (.ref a), v1, v2, v3, v4, v5] (st) h Q ↔ PW B X 27 102 [some (.ref a), v1, v2, v3, v4, v5] (.ref a :: st) h Q := PW_step rfl rfl rfl rfl
theorem u_27_101n : PW B X 27 101 [some .null, v1, v2, v3, v4, v5] (st) h Q ↔ PW B X 27 102 [some .null, v1, v2, v3, v4, v5] (.null :: st) h Q := PW_step rfl rfl rfl rfl
theorem u_27_102 : PW B X 27 102 lv (.ref a :: st) h Q ↔ PW B X 27 103 lv (.ref a :: .ref a :: st) h Q := PW_step rfl rfl rfl rfl
theorem u_27_102i : PW B X 27 102 lv (.int x :: st) h Q ↔ PW B X 27 103 lv (.int x :: .int x :: st) h Q := PW_step rfl rfl rfl rfl
theorem u_27_103 : PW B X 27 103 lv (.ref a :: st) h Q ↔ pm_O (pm_gf (pm_at B h a) 2 2) (fun v => PW B X 27 106 lv (v :: st) h Q) := PW_getf rfl rfl
theorem u_27_106 : PW B X 27 106 lv (st) h Q ↔ PW B X 27 107 lv (.int 1 :: st) h Q := PW_step rfl rfl rfl rfl
theorem u_27_107 : PW B X 27 107 lv (.int y :: .int x :: st) h Q ↔ PW B X 27 108 lv (.int (x + y) :: st) h Q := PW_step rfl rfl rfl rfl
theorem u_27_108 : PW B X 27 108 lv (v :: .ref a :: st) h Q ↔ pm_O (pm_pf (pm_at B h a) 2 2 v) (fun e => PW B X 27 111 lv (st) (pm_set B h a e) Q) := PW_putf rfl rfl
theorem u_27_111 : PW B X 27 111 [v0, some (.ref a), v2, v3, v4, v5] (st) h Q ↔ PW B X 27 112 [v0, some (.ref a), v2, v3, v4, v5] (.ref a :: st) h Q := PW_step rfl rfl rfl rfl
theorem u_27_111n : PW B X 27 111 [v0, some .null, v2, v3, v4, v5] (st) h Q ↔ PW B X 27 112 [v0, some .null, v2, v3, v4, v5] (.null :: st) h Q := PW_step rfl rfl rfl rfl
theorem u_27_112 : PW B X 27 112 [v0, v1, some (.int x), v3, v4, v5] (st) h Q ↔ PW B X 27 113 [v0, v1, some (.int x), v3, v4, v5] (.int x :: st) h Q := PW_step rfl rfl rfl rfl
theorem u_27_113 : PW B X 27 113 [v0, v1, v2, some (.int x), v4, v5] (st) h Q ↔ PW B X 27 114 [v0, v1, v2, some (.int x), v4, v5] (.int x :: st) h Q := PW_step rfl rfl rfl rfl
theorem u_27_114 : PW B X 27 114 [v0, v1, v2, v3, some (.int x), v5] (st) h Q ↔ PW B X 27 116 [v0, v1, v2, v3, some (.int x), v5] (.int x :: st) h Q := PW_step rfl rfl rfl rfl
theorem u_27_116 : PW B X 27 116 [v0, v1, v2, v3, v4, some (.int x)] (st) h Q ↔ PW B X 27 118 [v0, v1, v2, v3, v4, some (.int x)] (.int x :: st) h Q := PW_step rfl rfl rfl rfl
theorem u_27_118 : PW B X 27 118 lv (st) h Q ↔ PW B X 27 120 lv (.int 97 :: st) h Q := PW_step rfl rfl rfl rfl
theorem u_27_120 : PW B X 27 120 lv (.int y :: .int x :: st) h Q ↔ PW B X 27 121 lv (.int (x - y) :: st) h Q := PW_step rfl rfl rfl rfl
theorem u_27_121 : PW B X 27 121 lv (.int q3 :: .int q2 :: .int q1 :: .int q0 :: .ref a :: st) h Q ↔ (pm_w st ≤ 8 ∧ pm_io B h a 3 = true ∧ PW B X 32 0 [some (.ref a), some (.int q0), some (.int q1), some (.int q2), some (.int q3), none, none] [] h (fun r h' => PW B X 27 124 lv (r.toList ++ st) h' Q)) := PW_cv (y := 32) (as := [.int q0, .int q1, .int q2, .int q3]) (rest := st) rfl rfl rfl rfl rfl ⟨Nat.le_of_ble_eq_true rfl, Nat.le_of_ble_eq_true rfl, Nat.le_of_ble_eq_true rfl⟩
theorem u_27_124 : PW B X 27 124 lv (st) h Q ↔ PW B X 27 125 lv (.int 1 :: st) h Q := PW_step rfl rfl rfl rfl
theorem u_27_125 (hx : narrow .boolean (.int x) = .int x) : PW B X 27 125 lv ([.int x]) h Q ↔ Q (some (.int x)) h := PW_bret rfl rfl (by simp) hx
theorem u_27_125_0 : PW B X 27 125 lv ([.int 0]) h Q ↔ Q (some (.int 0)) h := u_27_125 rfl
theorem u_27_125_1 : PW B X 27 125 lv ([.int 1]) h Q ↔ Q (some (.int 1)) h := u_27_125 rfl
-- 28 RuleReader_here
theorem u_28_0 : PW B X 28 0 [some (.ref a)] (st) h Q ↔ PW B X 28 1 [some (.ref a)] (.ref a :: st) h Q := PW_step rfl rfl rfl rfl
theorem u_28_0n : PW B X 28 0 [some .null] (st) h Q ↔ PW B X 28 1 [some .null] (.null :: st) h Q := PW_step rfl rfl rfl rfl
theorem u_28_1 : PW B X 28 1 lv (.ref a :: st) h Q ↔ pm_O (pm_gf (pm_at B h a) 2 2) (fun v => PW B X 28 4 lv (v :: st) h Q) := PW_getf rfl rfl
theorem u_28_4 : PW B X 28 4 lv (.int x :: st) h Q ↔ (if x < 0 then PW B X 28 30 lv (st) h Q else PW B X 28 7 lv (st) h Q) := PW_if rfl rfl pm_c_lt
theorem u_28_7 : PW B X 28 7 [some (.ref a)] (st) h Q ↔ PW B X 28 8 [some (.ref a)] (.ref a :: st) h Q := PW_step rfl rfl rfl rfl
theorem u_28_7n : PW B X 28 7 [some .null] (st) h Q ↔ PW B X 28 8 [some .null] (.null :: st) h Q := PW_step rfl rfl rfl rfl
theorem u_28_8 : PW B X 28 8 lv (.ref a :: st) h Q ↔ pm_O (pm_gf (pm_at B h a) 2 2) (fun v => PW B X 28 11 lv (v :: st) h Q) := PW_getf rfl rfl
theorem u_28_11 : PW B X 28 11 [some (.ref a)] (st) h Q ↔ PW B X 28 12 [some (.ref a)] (.ref a :: st) h Q := PW_step rfl rfl rfl rfl
theorem u_28_11n : PW B X 28 11 [some .null] (st) h Q ↔ PW B X 28 12 [some .null] (.null :: st) h Q := PW_step rfl rfl rfl rfl
theorem u_28_12 : PW B X 28 12 lv (.ref a :: st) h Q ↔ pm_O (pm_gf (pm_at B h a) 2 1) (fun v => PW B X 28 15 lv (v :: st) h Q) := PW_getf rfl rfl
theorem u_28_15 : PW B X 28 15 lv (.int y :: .int x :: st) h Q ↔ (if y ≤ x then PW B X 28 30 lv (st) h Q else PW B X 28 18 lv (st) h Q) := PW_icmp rfl rfl pm_c_ge
theorem u_28_18 : PW B X 28 18 [some (.ref a)] (st) h Q ↔ PW B X 28 19 [some (.ref a)] (.ref a :: st) h Q := PW_step rfl rfl rfl rfl
theorem u_28_18n : PW B X 28 18 [some .null] (st) h Q ↔ PW B X 28 19 [some .null] (.null :: st) h Q := PW_step rfl rfl rfl rfl
theorem u_28_19 : PW B X 28 19 lv (.ref a :: st) h Q ↔ pm_O (pm_gf (pm_at B h a) 2 0) (fun v => PW B X 28 22 lv (v :: st) h Q) := PW_getf rfl rfl
theorem u_28_22 : PW B X 28 22 [some (.ref a)] (st) h Q ↔ PW B X 28 23 [some (.ref a)] (.ref a :: st) h Q := PW_step rfl rfl rfl rfl
theorem u_28_22n : PW B X 28 22 [some .null] (st) h Q ↔ PW B X 28 23 [some .null] (.null :: st) h Q := PW_step rfl rfl rfl rfl
theorem u_28_23 : PW B X 28 23 lv (.ref a :: st) h Q ↔ pm_O (pm_gf (pm_at B h a) 2 2) (fun v => PW B X 28 26 lv (v :: st) h Q) := PW_getf rfl rfl
theorem u_28_26 : PW B X 28 26 lv (.int x :: .ref a :: st) h Q ↔ pm_O (pm_ldi 2 (pm_at B h a) x) (fun v => PW B X 28 27 lv (v :: st) h Q) := PW_cald rfl
theorem u_28_27 : PW B X 28 27 lv (st) h Q ↔ PW B X 28 31 lv (st) h Q := PW_step rfl rfl rfl rfl
theorem u_28_30 : PW B X 28 30 lv (st) h Q ↔ PW B X 28 31 lv (.int 0 :: st) h Q := PW_step rfl rfl rfl rfl
theorem u_28_31 (hx : narrow .char (.int x) = .int x) : PW B X 28 31 lv ([.int x]) h Q ↔ Q (some (.int x)) h := PW_bret rfl rfl (by simp) hx
-- 29 RuleReader_take
theorem u_29_0 : PW B X 29 0 [some (.ref a), v1] (st) h Q ↔ PW B X 29 1 [some (.ref a), v1] (.ref a :: st) h Q := PW_step rfl rfl rfl rfl
theorem u_29_0n : PW B X 29 0 [some .null, v1] (st) h Q ↔ PW B X 29 1 [some .null, v1] (.null :: st) h Q := PW_step rfl rfl rfl rfl
theorem u_29_1 : PW B X 29 1 lv (.ref a :: st) h Q ↔ (pm_w st ≤ 8 ∧ pm_io B h a 2 = true ∧ PW B X 28 0 [some (.ref a)] [] h (fun r h' => PW B X 29 4 lv (r.toList ++ st) h' Q)) := PW_cv (y := 28) (as := []) (rest := st) rfl rfl rfl rfl rfl ⟨Nat.le_of_ble_eq_true rfl, Nat.le_of_ble_eq_true rfl, Nat.le_of_ble_eq_true rfl⟩
theorem u_29_4 : PW B X 29 4 [v0, some (.int x)] (st) h Q ↔ PW B X 29 5 [v0, some (.int x)] (.int x :: st) h Q := PW_step rfl rfl rfl rfl
theorem u_29_5 : PW B X 29 5 lv (.int y :: .int x :: st) h Q ↔ (if x = y then PW B X 29 10 lv (st) h Q else PW B X 29 8 lv (st) h Q) := PW_icmp rfl rfl pm_c_eq
theorem u_29_8 : PW B X 29 8 lv (st) h Q ↔ PW B X 29 9 lv (.int 0 :: st) h Q := PW_step rfl rfl rfl rfl
theorem u_29_9 (hx : narrow .boolean (.int x) = .int x) : PW B X 29 9 lv ([.int x]) h Q ↔ Q (some (.int x)) h := PW_bret rfl rfl (by simp) hx
theorem u_29_9_0 : PW B X 29 9 lv ([.int 0]) h Q ↔ Q (some (.int 0)) h := u_29_9 rfl
theorem u_29_9_1 : PW B X 29 9 lv ([.int 1]) h Q ↔ Q (some (.int 1)) h := u_29_9 rfl
theorem u_29_10 : PW B X 29 10 [some (.ref a), v1] (st) h Q ↔ PW B X 29 11 [some (.ref a), v1] (.ref a :: st) h Q := PW_step rfl rfl rfl rfl
theorem u_29_10n : PW B X 29 10 [some .null, v1] (st) h Q ↔ PW B X 29 11 [some .null, v1] (.null :: st) h Q := PW_step rfl rfl rfl rfl
theorem u_29_11 : PW B X 29 11 lv (.ref a :: st) h Q ↔ PW B X 29 12 lv (.ref a :: .ref a :: st) h Q := PW_step rfl rfl rfl rfl
theorem u_29_11i : PW B X 29 11 lv (.int x :: st) h Q ↔ PW B X 29 12 lv (.int x :: .int x :: st) h Q := PW_step rfl rfl rfl rfl
theorem u_29_12 : PW B X 29 12 lv (.ref a :: st) h Q ↔ pm_O (pm_gf (pm_at B h a) 2 2) (fun v => PW B X 29 15 lv (v :: st) h Q) := PW_getf rfl rfl
theorem u_29_15 : PW B X 29 15 lv (st) h Q ↔ PW B X 29 16 lv (.int 1 :: st) h Q := PW_step rfl rfl rfl rfl
theorem u_29_16 : PW B X 29 16 lv (.int y :: .int x :: st) h Q ↔ PW B X 29 17 lv (.int (x + y) :: st) h Q := PW_step rfl rfl rfl rfl
theorem u_29_17 : PW B X 29 17 lv (v :: .ref a :: st) h Q ↔ pm_O (pm_pf (pm_at B h a) 2 2 v) (fun e => PW B X 29 20 lv (st) (pm_set B h a e) Q) := PW_putf rfl rfl
theorem u_29_20 : PW B X 29 20 [some (.ref a), v1] (st) h Q ↔ PW B X 29 21 [some (.ref a), v1] (.ref a :: st) h Q := PW_step rfl rfl rfl rfl
theorem u_29_20n : PW B X 29 20 [some .null, v1] (st) h Q ↔ PW B X 29 21 [some .null, v1] (.null :: st) h Q := PW_step rfl rfl rfl rfl
theorem u_29_21 : PW B X 29 21 lv (.ref a :: st) h Q ↔ (pm_w st ≤ 8 ∧ pm_io B h a 2 = true ∧ PW B X 23 0 [some (.ref a), none] [] h (fun r h' => PW B X 29 24 lv (r.toList ++ st) h' Q)) := PW_cv (y := 23) (as := []) (rest := st) rfl rfl rfl rfl rfl ⟨Nat.le_of_ble_eq_true rfl, Nat.le_of_ble_eq_true rfl, Nat.le_of_ble_eq_true rfl⟩
theorem u_29_24 : PW B X 29 24 lv (st) h Q ↔ PW B X 29 25 lv (.int 1 :: st) h Q := PW_step rfl rfl rfl rfl
theorem u_29_25 (hx : narrow .boolean (.int x) = .int x) : PW B X 29 25 lv ([.int x]) h Q ↔ Q (some (.int x)) h := PW_bret rfl rfl (by simp) hx
theorem u_29_25_0 : PW B X 29 25 lv ([.int 0]) h Q ↔ Q (some (.int 0)) h := u_29_25 rfl
theorem u_29_25_1 : PW B X 29 25 lv ([.int 1]) h Q ↔ Q (some (.int 1)) h := u_29_25 rfl
-- 30 RuleReader_isDigitHere
theorem u_30_0 : PW B X 30 0 [some (.ref a)] (st) h Q ↔ PW B X 30 1 [some (.ref a)] (.ref a :: st) h Q := PW_step rfl rfl rfl rfl
theorem u_30_0n : PW B X 30 0 [some .null] (st) h Q ↔ PW B X 30 1 [some .null] (.null :: st) h Q := PW_step rfl rfl rfl rfl
theorem u_30_1 : PW B X 30 1 lv (.ref a :: st) h Q ↔ (pm_w st ≤ 8 ∧ pm_io B h a 2 = true ∧ PW B X 28 0 [some (.ref a)] [] h (fun r h' => PW B X 30 4 lv (r.toList ++ st) h' Q)) := PW_cv (y := 28) (as := []) (rest := st) rfl rfl rfl rfl rfl ⟨Nat.le_of_ble_eq_true rfl, Nat.le_of_ble_eq_true rfl, Nat.le_of_ble_eq_true rfl⟩
theorem u_30_4 : PW B X 30 4 lv (st) h Q ↔ PW B X 30 6 lv (.int 48 :: st) h Q := PW_step rfl rfl rfl rfl
theorem u_30_6 : PW B X 30 6 lv (st) h Q ↔ PW B X 30 8 lv (.int 57 :: st) h Q := PW_step rfl rfl rfl rfl
theorem u_30_8 : PW B X 30 8 lv (.int q2 :: .int q1 :: .int q0 :: st) h Q ↔ (pm_w st ≤ 8 ∧ PW B X 12 0 [some (.int q0), some (.int q1), some (.int q2)] [] h (fun r h' => PW B X 30 11 lv (r.toList ++ st) h' Q)) := PW_cs (y := 12) (as := [.int q0, .int q1, .int q2]) (rest := st) rfl rfl rfl rfl rfl ⟨Nat.le_of_ble_eq_true rfl, Nat.le_of_ble_eq_true rfl, Nat.le_of_ble_eq_true rfl⟩
theorem u_30_11 (hx : narrow .boolean (.int x) = .int x) : PW B X 30 11 lv ([.int x]) h Q ↔ Q (some (.int x)) h := PW_bret rfl rfl (by simp) hx
theorem u_30_11_0 : PW B X 30 11 lv ([.int 0]) h Q ↔ Q (some (.int 0)) h := u_30_11 rfl
theorem u_30_11_1 : PW B X 30 11 lv ([.int 1]) h Q ↔ Q (some (.int 1)) h := u_30_11 rfl
-- 31 RuleReader_readNumber
theorem u_31_0 : PW B X 31 0 [some (.ref a), v1, v2, v3, v4] (st) h Q ↔ PW B X 31 1 [some (.ref a), v1, v2, v3, v4] (.ref a :: st) h Q := PW_step rfl rfl rfl rfl
theorem u_31_0n : PW B X 31 0 [some .null, v1, v2, v3, v4] (st) h Q ↔ PW B X 31 1 [some .null, v1, v2, v3, v4] (.null :: st) h Q := PW_step rfl rfl rfl rfl
theorem u_31_1 : PW B X 31 1 lv (.ref a :: st) h Q ↔ pm_O (pm_gf (pm_at B h a) 2 2) (fun v => PW B X 31 4 lv (v :: st) h Q) := PW_getf rfl rfl
theorem u_31_4 : PW B X 31 4 [v0, v1, v2, v3, v4] (.int x :: st) h Q ↔ PW B X 31 5 [pm_c v0, some (.int x), v2, v3, v4] (st) h Q := PW_step rfl rfl rfl rfl
theorem u_31_5 : PW B X 31 5 lv (st) h Q ↔ PW B X 31 6 lv (.int 0 :: st) h Q := PW_step rfl rfl rfl rfl
theorem u_31_6 : PW B X 31 6 [v0, v1, v2, v3, v4] (.int x :: st) h Q ↔ PW B X 31 7 [v0, pm_c v1, some (.int x), v3, v4] (st) h Q := PW_step rfl rfl rfl rfl
theorem u_31_7 : PW B X 31 7 lv (st) h Q ↔ PW B X 31 8 lv (.int 0 :: st) h Q := PW_step rfl rfl rfl rfl
theorem u_31_8 : PW B X 31 8 [v0, v1, v2, v3, v4] (.int x :: st) h Q ↔ PW B X 31 9 [v0, v1, pm_c v2, some (.int x), v4] (st) h Q := PW_step rfl rfl rfl rfl
theorem u_31_9 : PW B X 31 9 [v0, some (.int x), v2, v3, v4] (st) h Q ↔ PW B X 31 10 [v0, some (.int x), v2, v3, v4] (.int x :: st) h Q := PW_step rfl rfl rfl rfl
theorem u_31_10 : PW B X 31 10 [v0, v1, v2, v3, v4] (.int x :: st) h Q ↔ PW B X 31 12 [v0, v1, v2, pm_c v3, some (.int x)] (st) h Q := PW_step rfl rfl rfl rfl
theorem u_31_12 : PW B X 31 12 [v0, v1, v2, v3, some (.int x)] (st) h Q ↔ PW B X 31 14 [v0, v1, v2, v3, some (.int x)] (.int x :: st) h Q := PW_step rfl rfl rfl rfl
theorem u_31_14 : PW B X 31 14 [some (.ref a), v1, v2, v3, v4] (st) h Q ↔ PW B X 31 15 [some (.ref a), v1, v2, v3, v4] (.ref a :: st) h Q := PW_step rfl rfl rfl rfl
theorem u_31_14n : PW B X 31 14 [some .null, v1, v2, v3, v4] (st) h Q ↔ PW B X 31 15 [some .null, v1, v2, v3, v4] (.null :: st) h Q := PW_step rfl rfl rfl rfl
theorem u_31_15 : PW B X 31 15 lv (.ref a :: st) h Q ↔ pm_O (pm_gf (pm_at B h a) 2 1) (fun v => PW B X 31 18 lv (v :: st) h Q) := PW_getf rfl rfl
theorem u_31_18 : PW B X 31 18 lv (.int y :: .int x :: st) h Q ↔ (if y ≤ x then PW B X 31 68 lv (st) h Q else PW B X 31 21 lv (st) h Q) := PW_icmp rfl rfl pm_c_ge
theorem u_31_21 : PW B X 31 21 [some (.ref a), v1, v2, v3, v4] (st) h Q ↔ PW B X 31 22 [some (.ref a), v1, v2, v3, v4] (.ref a :: st) h Q := PW_step rfl rfl rfl rfl
theorem u_31_21n : PW B X 31 21 [some .null, v1, v2, v3, v4] (st) h Q ↔ PW B X 31 22 [some .null, v1, v2, v3, v4] (.null :: st) h Q := PW_step rfl rfl rfl rfl
theorem u_31_22 : PW B X 31 22 lv (.ref a :: st) h Q ↔ pm_O (pm_gf (pm_at B h a) 2 0) (fun v => PW B X 31 25 lv (v :: st) h Q) := PW_getf rfl rfl
theorem u_31_25 : PW B X 31 25 [v0, v1, v2, v3, some (.int x)] (st) h Q ↔ PW B X 31 27 [v0, v1, v2, v3, some (.int x)] (.int x :: st) h Q := PW_step rfl rfl rfl rfl
theorem u_31_27 : PW B X 31 27 lv (.int x :: .ref a :: st) h Q ↔ pm_O (pm_ldi 2 (pm_at B h a) x) (fun v => PW B X 31 28 lv (v :: st) h Q) := PW_cald rfl
theorem u_31_28 : PW B X 31 28 lv (st) h Q ↔ PW B X 31 30 lv (.int 48 :: st) h Q := PW_step rfl rfl rfl rfl
theorem u_31_30 : PW B X 31 30 lv (st) h Q ↔ PW B X 31 32 lv (.int 57 :: st) h Q := PW_step rfl rfl rfl rfl
theorem u_31_32 : PW B X 31 32 lv (.int q2 :: .int q1 :: .int q0 :: st) h Q ↔ (pm_w st ≤ 8 ∧ PW B X 12 0 [some (.int q0), some (.int q1), some (.int q2)] [] h (fun r h' => PW B X 31 35 lv (r.toList ++ st) h' Q)) := PW_cs (y := 12) (as := [.int q0, .int q1, .int q2]) (rest := st) rfl rfl rfl rfl rfl ⟨Nat.le_of_ble_eq_true rfl, Nat.le_of_ble_eq_true rfl, Nat.le_of_ble_eq_true rfl⟩
theorem u_31_35 : PW B X 31 35 lv (.int x :: st) h Q ↔ (if x = 0 then PW B X 31 68 lv (st) h Q else PW B X 31 38 lv (st) h Q) := PW_if rfl rfl pm_c_eq
theorem u_31_38 : PW B X 31 38 [v0, v1, v2, some (.int x), v4] (st) h Q ↔ PW B X 31 39 [v0, v1, v2, some (.int x), v4] (.int x :: st) h Q := PW_step rfl rfl rfl rfl
theorem u_31_39 : PW B X 31 39 lv (st) h Q ↔ PW B X 31 40 lv (.int 3 :: st) h Q := PW_step rfl rfl rfl rfl
theorem u_31_40 : PW B X 31 40 lv (.int y :: .int x :: st) h Q ↔ (if y ≤ x then PW B X 31 59 lv (st) h Q else PW B X 31 43 lv (st) h Q) := PW_icmp rfl rfl pm_c_ge
theorem u_31_43 : PW B X 31 43 [v0, v1, some (.int x), v3, v4] (st) h Q ↔ PW B X 31 44 [v0, v1, some (.int x), v3, v4] (.int x :: st) h Q := PW_step rfl rfl rfl rfl
theorem u_31_44 : PW B X 31 44 lv (st) h Q ↔ PW B X 31 46 lv (.int 10 :: st) h Q := PW_step rfl rfl rfl rfl
theorem u_31_46 : PW B X 31 46 lv (.int y :: .int x :: st) h Q ↔ PW B X 31 47 lv (.int (x * y) :: st) h Q := PW_step rfl rfl rfl rfl
theorem u_31_47 : PW B X 31 47 [some (.ref a), v1, v2, v3, v4] (st) h Q ↔ PW B X 31 48 [some (.ref a), v1, v2, v3, v4] (.ref a :: st) h Q := PW_step rfl rfl rfl rfl
theorem u_31_47n : PW B X 31 47 [some .null, v1, v2, v3, v4] (st) h Q ↔ PW B X 31 48 [some .null, v1, v2, v3, v4] (.null :: st) h Q := PW_step rfl rfl rfl rfl
theorem u_31_48 : PW B X 31 48 lv (.ref a :: st) h Q ↔ pm_O (pm_gf (pm_at B h a) 2 0) (fun v => PW B X 31 51 lv (v :: st) h Q) := PW_getf rfl rfl
theorem u_31_51 : PW B X 31 51 [v0, v1, v2, v3, some (.int x)] (st) h Q ↔ PW B X 31 53 [v0, v1, v2, v3, some (.int x)] (.int x :: st) h Q := PW_step rfl rfl rfl rfl
theorem u_31_53 : PW B X 31 53 lv (.int x :: .ref a :: st) h Q ↔ pm_O (pm_ldi 2 (pm_at B h a) x) (fun v => PW B X 31 54 lv (v :: st) h Q) := PW_cald rfl
theorem u_31_54 : PW B X 31 54 lv (st) h Q ↔ PW B X 31 56 lv (.int 48 :: st) h Q := PW_step rfl rfl rfl rfl
theorem u_31_56 : PW B X 31 56 lv (.int y :: .int x :: st) h Q ↔ PW B X 31 57 lv (.int (x - y) :: st) h Q := PW_step rfl rfl rfl rfl
theorem u_31_57 : PW B X 31 57 lv (.int y :: .int x :: st) h Q ↔ PW B X 31 58 lv (.int (x + y) :: st) h Q := PW_step rfl rfl rfl rfl
theorem u_31_58 : PW B X 31 58 [v0, v1, v2, v3, v4] (.int x :: st) h Q ↔ PW B X 31 59 [v0, pm_c v1, some (.int x), v3, v4] (st) h Q := PW_step rfl rfl rfl rfl
theorem u_31_59 : PW B X 31 59 [v0, v1, v2, some (.int x), v4] (st) h Q ↔ PW B X 31 62 [v0, v1, pm_c v2, some (.int (x + 1)), v4] (st) h Q := PW_step rfl rfl rfl rfl
theorem u_31_62 : PW B X 31 62 [v0, v1, v2, v3, some (.int x)] (st) h Q ↔ PW B X 31 65 [v0, v1, v2, pm_c v3, some (.int (x + 1))] (st) h Q := PW_step rfl rfl rfl rfl
theorem u_31_65 : PW B X 31 65 lv (st) h Q ↔ PW B X 31 12 lv (st) h Q := PW_step rfl rfl rfl rfl
theorem u_31_68 : PW B X 31 68 [v0, v1, v2, some (.int x), v4] (st) h Q ↔ PW B X 31 69 [v0, v1, v2, some (.int x), v4] (.int x :: st) h Q := PW_step rfl rfl rfl rfl
theorem u_31_69 : PW B X 31 69 lv (.int x :: st) h Q ↔ (if x = 0 then PW B X 31 86 lv (st) h Q else PW B X 31 72 lv (st) h Q) := PW_if rfl rfl pm_c_eq
theorem u_31_72 : PW B X 31 72 [v0, v1, v2, some (.int x), v4] (st) h Q ↔ PW B X 31 73 [v0, v1, v2, some (.int x), v4] (.int x :: st) h Q := PW_step rfl rfl rfl rfl
theorem u_31_73 : PW B X 31 73 lv (st) h Q ↔ PW B X 31 74 lv (.int 3 :: st) h Q := PW_step rfl rfl rfl rfl
theorem u_31_74 : PW B X 31 74 lv (.int y :: .int x :: st) h Q ↔ (if y < x then PW B X 31 86 lv (st) h Q else PW B X 31 77 lv (st) h Q) := PW_icmp rfl rfl pm_c_gt
theorem u_31_77 : PW B X 31 77 [some (.ref a), v1, v2, v3, v4] (st) h Q ↔ PW B X 31 78 [some (.ref a), v1, v2, v3, v4] (.ref a :: st) h Q := PW_step rfl rfl rfl rfl
theorem u_31_77n : PW B X 31 77 [some .null, v1, v2, v3, v4] (st) h Q ↔ PW B X 31 78 [some .null, v1, v2, v3, v4] (.null :: st) h Q := PW_step rfl rfl rfl rfl
theorem u_31_78 : PW B X 31 78 lv (.ref a :: st) h Q ↔ (pm_w st ≤ 8 ∧ pm_io B h a 2 = true ∧ PW B X 28 0 [some (.ref a)] [] h (fun r h' => PW B X 31 81 lv (r.toList ++ st) h' Q)) := PW_cv (y := 28) (as := []) (rest := st) rfl rfl rfl rfl rfl ⟨Nat.le_of_ble_eq_true rfl, Nat.le_of_ble_eq_true rfl, Nat.le_of_ble_eq_true rfl⟩
theorem u_31_81 : PW B X 31 81 lv (st) h Q ↔ PW B X 31 83 lv (.int 48 :: st) h Q := PW_step rfl rfl rfl rfl
theorem u_31_83 : PW B X 31 83 lv (.int y :: .int x :: st) h Q ↔ (if ¬ x = y then PW B X 31 88 lv (st) h Q else PW B X 31 86 lv (st) h Q) := PW_icmp rfl rfl pm_c_ne
theorem u_31_86 : PW B X 31 86 lv (st) h Q ↔ PW B X 31 87 lv (.int 0 :: st) h Q := PW_step rfl rfl rfl rfl
theorem u_31_87 : PW B X 31 87 lv ([.int x]) h Q ↔ Q (some (.int x)) h := PW_ret rfl rfl
theorem u_31_88 : PW B X 31 88 [some (.ref a), v1, v2, v3, v4] (st) h Q ↔ PW B X 31 89 [some (.ref a), v1, v2, v3, v4] (.ref a :: st) h Q := PW_step rfl rfl rfl rfl
theorem u_31_88n : PW B X 31 88 [some .null, v1, v2, v3, v4] (st) h Q ↔ PW B X 31 89 [some .null, v1, v2, v3, v4] (.null :: st) h Q := PW_step rfl rfl rfl rfl
theorem u_31_89 : PW B X 31 89 [v0, some (.int x), v2, v3, v4] (st) h Q ↔ PW B X 31 90 [v0, some (.int x), v2, v3, v4] (.int x :: st) h Q := PW_step rfl rfl rfl rfl
theorem u_31_90 : PW B X 31 90 [v0, v1, v2, some (.int x), v4] (st) h Q ↔ PW B X 31 91 [v0, v1, v2, some (.int x), v4] (.int x :: st) h Q := PW_step rfl rfl rfl rfl
theorem u_31_91 : PW B X 31 91 lv (.int y :: .int x :: st) h Q ↔ PW B X 31 92 lv (.int (x + y) :: st) h Q := PW_step rfl rfl rfl rfl
theorem u_31_92 : PW B X 31 92 lv (v :: .ref a :: st) h Q ↔ pm_O (pm_pf (pm_at B h a) 2 2 v) (fun e => PW B X 31 95 lv (st) (pm_set B h a e) Q) := PW_putf rfl rfl
theorem u_31_95 : PW B X 31 95 [some (.ref a), v1, v2, v3, v4] (st) h Q ↔ PW B X 31 96 [some (.ref a), v1, v2, v3, v4] (.ref a :: st) h Q := PW_step rfl rfl rfl rfl
theorem u_31_95n : PW B X 31 95 [some .null, v1, v2, v3, v4] (st) h Q ↔ PW B X 31 96 [some .null, v1, v2, v3, v4] (.null :: st) h Q := PW_step rfl rfl rfl rfl
theorem u_31_96 : PW B X 31 96 lv (.ref a :: st) h Q ↔ (pm_w st ≤ 8 ∧ pm_io B h a 2 = true ∧ PW B X 23 0 [some (.ref a), none] [] h (fun r h' => PW B X 31 99 lv (r.toList ++ st) h' Q)) := PW_cv (y := 23) (as := []) (rest := st) rfl rfl rfl rfl rfl ⟨Nat.le_of_ble_eq_true rfl, Nat.le_of_ble_eq_true rfl, Nat.le_of_ble_eq_true rfl⟩
theorem u_31_99 : PW B X 31 99 [v0, v1, some (.int x), v3, v4] (st) h Q ↔ PW B X 31 100 [v0, v1, some (.int x), v3, v4] (.int x :: st) h Q := PW_step rfl rfl rfl rfl
theorem u_31_100 : PW B X 31 100 lv ([.int x]) h Q ↔ Q (some (.int x)) h := PW_ret rfl rfl
-- 32 RuleSet_addTerm
theorem u_32_0 : PW B X 32 0 [some (.ref a), v1, v2, v3, v4, v5, v6] (st) h Q ↔ PW B X 32 1 [some (.ref a), v1, v2, v3, v4, v5, v6] (.ref a :: st) h Q := PW_step rfl rfl rfl rfl
theorem u_32_0n : PW B X 32 0 [some .null, v1, v2, v3, v4, v5, v6] (st) h Q ↔ PW B X 32 1 [some .null, v1, v2, v3, v4, v5, v6] (.null :: st) h Q := PW_step rfl rfl rfl rfl
theorem u_32_1 : PW B X 32 1 lv (.ref a :: st) h Q ↔ (pm_w st ≤ 8 ∧ pm_io B h a 3 = true ∧ PW B X 26 0 [some (.ref a)] [] h (fun r h' => PW B X 32 4 lv (r.toList ++ st) h' Q)) := PW_cv (y := 26) (as := []) (rest := st) rfl rfl rfl rfl rfl ⟨Nat.le_of_ble_eq_true rfl, Nat.le_of_ble_eq_true rfl, Nat.le_of_ble_eq_true rfl⟩
theorem u_32_4 : PW B X 32 4 lv (.int x :: st) h Q ↔ (if ¬ x = 0 then PW B X 32 8 lv (st) h Q else PW B X 32 7 lv (st) h Q) := PW_if rfl rfl pm_c_ne
theorem u_32_7 : PW B X 32 7 lv ([]) h Q ↔ Q none h := PW_ret rfl rfl
theorem u_32_8 : PW B X 32 8 [some (.ref a), v1, v2, v3, v4, v5, v6] (st) h Q ↔ PW B X 32 9 [some (.ref a), v1, v2, v3, v4, v5, v6] (.ref a :: st) h Q := PW_step rfl rfl rfl rfl
theorem u_32_8n : PW B X 32 8 [some .null, v1, v2, v3, v4, v5, v6] (st) h Q ↔ PW B X 32 9 [some .null, v1, v2, v3, v4, v5, v6] (.null :: st) h Q := PW_step rfl rfl rfl rfl
theorem u_32_9 : PW B X 32 9 lv (.ref a :: st) h Q ↔ pm_O (pm_gf (pm_at B h a) 3 5) (fun v => PW B X 32 12 lv (v :: st) h Q) := PW_getf rfl rfl
theorem u_32_12 : PW B X 32 12 lv (st) h Q ↔ PW B X 32 13 lv (.int 1 :: st) h Q := PW_step rfl rfl rfl rfl
theorem u_32_13 : PW B X 32 13 lv (.int y :: .int x :: st) h Q ↔ PW B X 32 14 lv (.int (x - y) :: st) h Q := PW_step rfl rfl rfl rfl
theorem u_32_14 : PW B X 32 14 [v0, v1, v2, v3, v4, v5, v6] (.int x :: st) h Q ↔ PW B X 32 16 [v0, v1, v2, v3, pm_c v4, some (.int x), v6] (st) h Q := PW_step rfl rfl rfl rfl
theorem u_32_16 : PW B X 32 16 [v0, v1, v2, v3, v4, some (.int x), v6] (st) h Q ↔ PW B X 32 18 [v0, v1, v2, v3, v4, some (.int x), v6] (.int x :: st) h Q := PW_step rfl rfl rfl rfl
theorem u_32_18 : PW B X 32 18 lv (st) h Q ↔ PW B X 32 20 lv (.int 6 :: st) h Q := PW_step rfl rfl rfl rfl
theorem u_32_20 : PW B X 32 20 lv (.int y :: .int x :: st) h Q ↔ PW B X 32 21 lv (.int (x * y) :: st) h Q := PW_step rfl rfl rfl rfl
theorem u_32_21 : PW B X 32 21 [some (.ref a), v1, v2, v3, v4, v5, v6] (st) h Q ↔ PW B X 32 22 [some (.ref a), v1, v2, v3, v4, v5, v6] (.ref a :: st) h Q := PW_step rfl rfl rfl rfl
theorem u_32_21n : PW B X 32 21 [some .null, v1, v2, v3, v4, v5, v6] (st) h Q ↔ PW B X 32 22 [some .null, v1, v2, v3, v4, v5, v6] (.null :: st) h Q := PW_step rfl rfl rfl rfl
theorem u_32_22 : PW B X 32 22 lv (.ref a :: st) h Q ↔ pm_O (pm_gf (pm_at B h a) 3 4) (fun v => PW B X 32 25 lv (v :: st) h Q) := PW_getf rfl rfl
theorem u_32_25 : PW B X 32 25 [v0, v1, v2, v3, v4, some (.int x), v6] (st) h Q ↔ PW B X 32 27 [v0, v1, v2, v3, v4, some (.int x), v6] (.int x :: st) h Q := PW_step rfl rfl rfl rfl
theorem u_32_27 : PW B X 32 27 lv (.int x :: .ref a :: st) h Q ↔ pm_O (pm_ldi 0 (pm_at B h a) x) (fun v => PW B X 32 28 lv (v :: st) h Q) := PW_iald rfl rfl
theorem u_32_28 : PW B X 32 28 lv (.int y :: .int x :: st) h Q ↔ PW B X 32 29 lv (.int (x + y) :: st) h Q := PW_step rfl rfl rfl rfl
theorem u_32_29 : PW B X 32 29 [v0, v1, v2, v3, v4, v5, v6] (.int x :: st) h Q ↔ PW B X 32 31 [v0, v1, v2, v3, v4, pm_c v5, some (.int x)] (st) h Q := PW_step rfl rfl rfl rfl
theorem u_32_31 : PW B X 32 31 [some (.ref a), v1, v2, v3, v4, v5, v6] (st) h Q ↔ PW B X 32 32 [some (.ref a), v1, v2, v3, v4, v5, v6] (.ref a :: st) h Q := PW_step rfl rfl rfl rfl
theorem u_32_31n : PW B X 32 31 [some .null, v1, v2, v3, v4, v5, v6] (st) h Q ↔ PW B X 32 32 [some .null, v1, v2, v3, v4, v5, v6] (.null :: st) h Q := PW_step rfl rfl rfl rfl
theorem u_32_32 : PW B X 32 32 lv (.ref a :: st) h Q ↔ pm_O (pm_gf (pm_at B h a) 3 0) (fun v => PW B X 32 35 lv (v :: st) h Q) := PW_getf rfl rfl
theorem u_32_35 : PW B X 32 35 [v0, v1, v2, v3, v4, v5, some (.int x)] (st) h Q ↔ PW B X 32 37 [v0, v1, v2, v3, v4, v5, some (.int x)] (.int x :: st) h Q := PW_step rfl rfl rfl rfl
theorem u_32_37 : PW B X 32 37 [v0, some (.int x), v2, v3, v4, v5, v6] (st) h Q ↔ PW B X 32 38 [v0, some (.int x), v2, v3, v4, v5, v6] (.int x :: st) h Q := PW_step rfl rfl rfl rfl
theorem u_32_38 : PW B X 32 38 lv (.int y :: .int x :: .ref a :: st) h Q ↔ pm_O (pm_sti 2 (pm_at B h a) x y) (fun e => PW B X 32 39 lv (st) (pm_set B h a e) Q) := PW_cast rfl
theorem u_32_39 : PW B X 32 39 [some (.ref a), v1, v2, v3, v4, v5, v6] (st) h Q ↔ PW B X 32 40 [some (.ref a), v1, v2, v3, v4, v5, v6] (.ref a :: st) h Q := PW_step rfl rfl rfl rfl
theorem u_32_39n : PW B X 32 39 [some .null, v1, v2, v3, v4, v5, v6] (st) h Q ↔ PW B X 32 40 [some .null, v1, v2, v3, v4, v5, v6] (.null :: st) h Q := PW_step rfl rfl rfl rfl
theorem u_32_40 : PW B X 32 40 lv (.ref a :: st) h Q ↔ pm_O (pm_gf (pm_at B h a) 3 1) (fun v => PW B X 32 43 lv (v :: st) h Q) := PW_getf rfl rfl
theorem u_32_43 : PW B X 32 43 [v0, v1, v2, v3, v4, v5, some (.int x)] (st) h Q ↔ PW B X 32 45 [v0, v1, v2, v3, v4, v5, some (.int x)] (.int x :: st) h Q := PW_step rfl rfl rfl rfl
theorem u_32_45 : PW B X 32 45 [v0, v1, some (.int x), v3, v4, v5, v6] (st) h Q ↔ PW B X 32 46 [v0, v1, some (.int x), v3, v4, v5, v6] (.int x :: st) h Q := PW_step rfl rfl rfl rfl
theorem u_32_46 : PW B X 32 46 lv (.int y :: .int x :: .ref a :: st) h Q ↔ pm_O (pm_sti 0 (pm_at B h a) x y) (fun e => PW B X 32 47 lv (st) (pm_set B h a e) Q) := PW_iast rfl
theorem u_32_47 : PW B X 32 47 [some (.ref a), v1, v2, v3, v4, v5, v6] (st) h Q ↔ PW B X 32 48 [some (.ref a), v1, v2, v3, v4, v5, v6] (.ref a :: st) h Q := PW_step rfl rfl rfl rfl
theorem u_32_47n : PW B X 32 47 [some .null, v1, v2, v3, v4, v5, v6] (st) h Q ↔ PW B X 32 48 [some .null, v1, v2, v3, v4, v5, v6] (.null :: st) h Q := PW_step rfl rfl rfl rfl
theorem u_32_48 : PW B X 32 48 lv (.ref a :: st) h Q ↔ pm_O (pm_gf (pm_at B h a) 3 2) (fun v => PW B X 32 51 lv (v :: st) h Q) := PW_getf rfl rfl
theorem u_32_51 : PW B X 32 51 [v0, v1, v2, v3, v4, v5, some (.int x)] (st) h Q ↔ PW B X 32 53 [v0, v1, v2, v3, v4, v5, some (.int x)] (.int x :: st) h Q := PW_step rfl rfl rfl rfl
theorem u_32_53 : PW B X 32 53 [v0, v1, v2, some (.int x), v4, v5, v6] (st) h Q ↔ PW B X 32 54 [v0, v1, v2, some (.int x), v4, v5, v6] (.int x :: st) h Q := PW_step rfl rfl rfl rfl
theorem u_32_54 : PW B X 32 54 lv (.int y :: .int x :: .ref a :: st) h Q ↔ pm_O (pm_sti 0 (pm_at B h a) x y) (fun e => PW B X 32 55 lv (st) (pm_set B h a e) Q) := PW_iast rfl
theorem u_32_55 : PW B X 32 55 [some (.ref a), v1, v2, v3, v4, v5, v6] (st) h Q ↔ PW B X 32 56 [some (.ref a), v1, v2, v3, v4, v5, v6] (.ref a :: st) h Q := PW_step rfl rfl rfl rfl
theorem u_32_55n : PW B X 32 55 [some .null, v1, v2, v3, v4, v5, v6] (st) h Q ↔ PW B X 32 56 [some .null, v1, v2, v3, v4, v5, v6] (.null :: st) h Q := PW_step rfl rfl rfl rfl
theorem u_32_56 : PW B X 32 56 lv (.ref a :: st) h Q ↔ pm_O (pm_gf (pm_at B h a) 3 3) (fun v => PW B X 32 59 lv (v :: st) h Q) := PW_getf rfl rfl
theorem u_32_59 : PW B X 32 59 [v0, v1, v2, v3, v4, v5, some (.int x)] (st) h Q ↔ PW B X 32 61 [v0, v1, v2, v3, v4, v5, some (.int x)] (.int x :: st) h Q := PW_step rfl rfl rfl rfl
theorem u_32_61 : PW B X 32 61 [v0, v1, v2, v3, some (.int x), v5, v6] (st) h Q ↔ PW B X 32 63 [v0, v1, v2, v3, some (.int x), v5, v6] (.int x :: st) h Q := PW_step rfl rfl rfl rfl
theorem u_32_63 : PW B X 32 63 lv (.int y :: .int x :: .ref a :: st) h Q ↔ pm_O (pm_sti 0 (pm_at B h a) x y) (fun e => PW B X 32 64 lv (st) (pm_set B h a e) Q) := PW_iast rfl
theorem u_32_64 : PW B X 32 64 [some (.ref a), v1, v2, v3, v4, v5, v6] (st) h Q ↔ PW B X 32 65 [some (.ref a), v1, v2, v3, v4, v5, v6] (.ref a :: st) h Q := PW_step rfl rfl rfl rfl
theorem u_32_64n : PW B X 32 64 [some .null, v1, v2, v3, v4, v5, v6] (st) h Q ↔ PW B X 32 65 [some .null, v1, v2, v3, v4, v5, v6] (.null :: st) h Q := PW_step rfl rfl rfl rfl
theorem u_32_65 : PW B X 32 65 lv (.ref a :: st) h Q ↔ pm_O (pm_gf (pm_at B h a) 3 4) (fun v => PW B X 32 68 lv (v :: st) h Q) := PW_getf rfl rfl
theorem u_32_68 : PW B X 32 68 [v0, v1, v2, v3, v4, some (.int x), v6] (st) h Q ↔ PW B X 32 70 [v0, v1, v2, v3, v4, some (.int x), v6] (.int x :: st) h Q := PW_step rfl rfl rfl rfl
theorem u_32_70 : PW B X 32 70 lv (.int x :: .ref a :: st) h Q ↔ PW B X 32 71 lv (.int x :: .ref a :: .int x :: .ref a :: st) h Q := PW_step rfl rfl rfl rfl
theorem u_32_71 : PW B X 32 71 lv (.int x :: .ref a :: st) h Q ↔ pm_O (pm_ldi 0 (pm_at B h a) x) (fun v => PW B X 32 72 lv (v :: st) h Q) := PW_iald rfl rfl
theorem u_32_72 : PW B X 32 72 lv (st) h Q ↔ PW B X 32 73 lv (.int 1 :: st) h Q := PW_step rfl rfl rfl rfl
theorem u_32_73 : PW B X 32 73 lv (.int y :: .int x :: st) h Q ↔ PW B X 32 74 lv (.int (x + y) :: st) h Q := PW_step rfl rfl rfl rfl
theorem u_32_74 : PW B X 32 74 lv (.int y :: .int x :: .ref a :: st) h Q ↔ pm_O (pm_sti 0 (pm_at B h a) x y) (fun e => PW B X 32 75 lv (st) (pm_set B h a e) Q) := PW_iast rfl
theorem u_32_75 : PW B X 32 75 [some (.ref a), v1, v2, v3, v4, v5, v6] (st) h Q ↔ PW B X 32 76 [some (.ref a), v1, v2, v3, v4, v5, v6] (.ref a :: st) h Q := PW_step rfl rfl rfl rfl
theorem u_32_75n : PW B X 32 75 [some .null, v1, v2, v3, v4, v5, v6] (st) h Q ↔ PW B X 32 76 [some .null, v1, v2, v3, v4, v5, v6] (.null :: st) h Q := PW_step rfl rfl rfl rfl
theorem u_32_76 : PW B X 32 76 lv (.ref a :: st) h Q ↔ PW B X 32 77 lv (.ref a :: .ref a :: st) h Q := PW_step rfl rfl rfl rfl
theorem u_32_76i : PW B X 32 76 lv (.int x :: st) h Q ↔ PW B X 32 77 lv (.int x :: .int x :: st) h Q := PW_step rfl rfl rfl rfl
theorem u_32_77 : PW B X 32 77 lv (.ref a :: st) h Q ↔ pm_O (pm_gf (pm_at B h a) 3 6) (fun v => PW B X 32 80 lv (v :: st) h Q) := PW_getf rfl rfl
theorem u_32_80 : PW B X 32 80 lv (st) h Q ↔ PW B X 32 81 lv (.int 1 :: st) h Q := PW_step rfl rfl rfl rfl
theorem u_32_81 : PW B X 32 81 lv (.int y :: .int x :: st) h Q ↔ PW B X 32 82 lv (.int (x + y) :: st) h Q := PW_step rfl rfl rfl rfl
theorem u_32_82 : PW B X 32 82 lv (v :: .ref a :: st) h Q ↔ pm_O (pm_pf (pm_at B h a) 3 6 v) (fun e => PW B X 32 85 lv (st) (pm_set B h a e) Q) := PW_putf rfl rfl
theorem u_32_85 : PW B X 32 85 lv ([]) h Q ↔ Q none h := PW_ret rfl rfl
-- 33 RuleReader_forget
theorem u_33_0 : PW B X 33 0 [some (.ref a)] (st) h Q ↔ PW B X 33 1 [some (.ref a)] (.ref a :: st) h Q := PW_step rfl rfl rfl rfl
theorem u_33_0n : PW B X 33 0 [some .null] (st) h Q ↔ PW B X 33 1 [some .null] (.null :: st) h Q := PW_step rfl rfl rfl rfl
theorem u_33_1 : PW B X 33 1 lv (st) h Q ↔ PW B X 33 2 lv (.int 0 :: st) h Q := PW_step rfl rfl rfl rfl
theorem u_33_2 : PW B X 33 2 lv (v :: .ref a :: st) h Q ↔ pm_O (pm_pf (pm_at B h a) 2 1 v) (fun e => PW B X 33 5 lv (st) (pm_set B h a e) Q) := PW_putf rfl rfl
theorem u_33_5 : PW B X 33 5 lv ([]) h Q ↔ Q none h := PW_ret rfl rfl
-- 36 Extremes_reckon
theorem u_36_0 : PW B X 36 0 [some (.ref a), v1, v2, v3, v4] (st) h Q ↔ PW B X 36 1 [some (.ref a), v1, v2, v3, v4] (.ref a :: st) h Q := PW_step rfl rfl rfl rfl
theorem u_36_0n : PW B X 36 0 [some .null, v1, v2, v3, v4] (st) h Q ↔ PW B X 36 1 [some .null, v1, v2, v3, v4] (.null :: st) h Q := PW_step rfl rfl rfl rfl
theorem u_36_1 : PW B X 36 1 lv (.ref a :: st) h Q ↔ pm_O (pm_gf (pm_at B h a) 6 3) (fun v => PW B X 36 4 lv (v :: st) h Q) := PW_getf rfl rfl
theorem u_36_4 : PW B X 36 4 lv (st) h Q ↔ PW B X 36 5 lv (.long 0 :: st) h Q := PW_step rfl rfl rfl rfl
theorem u_36_5 : PW B X 36 5 lv (st) h Q ↔ PW B X 36 6 lv (.long 1 :: st) h Q := PW_step rfl rfl rfl rfl
theorem u_36_6 : PW B X 36 6 lv (.long p1 :: .long p0 :: .ref a :: st) h Q ↔ (pm_w st ≤ 8 ∧ pm_io B h a 8 = true ∧ PW B X 37 0 [some (.ref a), some (.long p0), none, some (.long p1), none, none, none] [] h (fun r h' => PW B X 36 9 lv (r.toList ++ st) h' Q)) := PW_cv (y := 37) (as := [.long p0, .long p1]) (rest := st) rfl rfl rfl rfl rfl ⟨Nat.le_of_ble_eq_true rfl, Nat.le_of_ble_eq_true rfl, Nat.le_of_ble_eq_true rfl⟩
theorem u_36_9 : PW B X 36 9 [some (.ref a), v1, v2, v3, v4] (st) h Q ↔ PW B X 36 10 [some (.ref a), v1, v2, v3, v4] (.ref a :: st) h Q := PW_step rfl rfl rfl rfl
theorem u_36_9n : PW B X 36 9 [some .null, v1, v2, v3, v4] (st) h Q ↔ PW B X 36 10 [some .null, v1, v2, v3, v4] (.null :: st) h Q := PW_step rfl rfl rfl rfl
theorem u_36_10 : PW B X 36 10 lv (.ref a :: st) h Q ↔ pm_O (pm_gf (pm_at B h a) 6 4) (fun v => PW B X 36 13 lv (v :: st) h Q) := PW_getf rfl rfl
theorem u_36_13 : PW B X 36 13 lv (st) h Q ↔ PW B X 36 14 lv (.long 0 :: st) h Q := PW_step rfl rfl rfl rfl
theorem u_36_14 : PW B X 36 14 lv (st) h Q ↔ PW B X 36 15 lv (.long 1 :: st) h Q := PW_step rfl rfl rfl rfl
theorem u_36_15 : PW B X 36 15 lv (.long p1 :: .long p0 :: .ref a :: st) h Q ↔ (pm_w st ≤ 8 ∧ pm_io B h a 8 = true ∧ PW B X 37 0 [some (.ref a), some (.long p0), none, some (.long p1), none, none, none] [] h (fun r h' => PW B X 36 18 lv (r.toList ++ st) h' Q)) := PW_cv (y := 37) (as := [.long p0, .long p1]) (rest := st) rfl rfl rfl rfl rfl ⟨Nat.le_of_ble_eq_true rfl, Nat.le_of_ble_eq_true rfl, Nat.le_of_ble_eq_true rfl⟩
theorem u_36_18 : PW B X 36 18 [some (.ref a), v1, v2, v3, v4] (st) h Q ↔ PW B X 36 19 [some (.ref a), v1, v2, v3, v4] (.ref a :: st) h Q := PW_step rfl rfl rfl rfl
theorem u_36_18n : PW B X 36 18 [some .null, v1, v2, v3, v4] (st) h Q ↔ PW B X 36 19 [some .null, v1, v2, v3, v4] (.null :: st) h Q := PW_step rfl rfl rfl rfl
theorem u_36_19 : PW B X 36 19 lv (st) h Q ↔ PW B X 36 20 lv (.int (-1) :: st) h Q := PW_step rfl rfl rfl rfl
theorem u_36_20 : PW B X 36 20 lv (v :: .ref a :: st) h Q ↔ pm_O (pm_pf (pm_at B h a) 6 5 v) (fun e => PW B X 36 23 lv (st) (pm_set B h a e) Q) := PW_putf rfl rfl
theorem u_36_23 : PW B X 36 23 [some (.ref a), v1, v2, v3, v4] (st) h Q ↔ PW B X 36 24 [some (.ref a), v1, v2, v3, v4] (.ref a :: st) h Q := PW_step rfl rfl rfl rfl
theorem u_36_23n : PW B X 36 23 [some .null, v1, v2, v3, v4] (st) h Q ↔ PW B X 36 24 [some .null, v1, v2, v3, v4] (.null :: st) h Q := PW_step rfl rfl rfl rfl
theorem u_36_24 : PW B X 36 24 lv (st) h Q ↔ PW B X 36 25 lv (.int (-1) :: st) h Q := PW_step rfl rfl rfl rfl
theorem u_36_25 : PW B X 36 25 lv (v :: .ref a :: st) h Q ↔ pm_O (pm_pf (pm_at B h a) 6 6 v) (fun e => PW B X 36 28 lv (st) (pm_set B h a e) Q) := PW_putf rfl rfl
theorem u_36_28 : PW B X 36 28 lv (st) h Q ↔ PW B X 36 29 lv (.int 0 :: st) h Q := PW_step rfl rfl rfl rfl
theorem u_36_29 : PW B X 36 29 [v0, v1, v2, v3, v4] (.int x :: st) h Q ↔ PW B X 36 31 [v0, v1, v2, pm_c v3, some (.int x)] (st) h Q := PW_step rfl rfl rfl rfl
theorem u_36_31 : PW B X 36 31 [v0, v1, v2, v3, some (.int x)] (st) h Q ↔ PW B X 36 33 [v0, v1, v2, v3, some (.int x)] (.int x :: st) h Q := PW_step rfl rfl rfl rfl
theorem u_36_33 : PW B X 36 33 [v0, some (.ref a), v2, v3, v4] (st) h Q ↔ PW B X 36 34 [v0, some (.ref a), v2, v3, v4] (.ref a :: st) h Q := PW_step rfl rfl rfl rfl
theorem u_36_33n : PW B X 36 33 [v0, some .null, v2, v3, v4] (st) h Q ↔ PW B X 36 34 [v0, some .null, v2, v3, v4] (.null :: st) h Q := PW_step rfl rfl rfl rfl
theorem u_36_34 : PW B X 36 34 lv (.ref a :: st) h Q ↔ pm_O (pm_gf (pm_at B h a) 3 5) (fun v => PW B X 36 37 lv (v :: st) h Q) := PW_getf rfl rfl
theorem u_36_37 : PW B X 36 37 lv (.int y :: .int x :: st) h Q ↔ (if y ≤ x then PW B X 36 180 lv (st) h Q else PW B X 36 40 lv (st) h Q) := PW_icmp rfl rfl pm_c_ge
theorem u_36_40 : PW B X 36 40 [v0, some (.ref a), v2, v3, v4] (st) h Q ↔ PW B X 36 41 [v0, some (.ref a), v2, v3, v4] (.ref a :: st) h Q := PW_step rfl rfl rfl rfl
theorem u_36_40n : PW B X 36 40 [v0, some .null, v2, v3, v4] (st) h Q ↔ PW B X 36 41 [v0, some .null, v2, v3, v4] (.null :: st) h Q := PW_step rfl rfl rfl rfl
theorem u_36_41 : PW B X 36 41 [v0, v1, v2, v3, some (.int x)] (st) h Q ↔ PW B X 36 43 [v0, v1, v2, v3, some (.int x)] (.int x :: st) h Q := PW_step rfl rfl rfl rfl
theorem u_36_43 : PW B X 36 43 [v0, v1, some (.ref a), v3, v4] (st) h Q ↔ PW B X 36 44 [v0, v1, some (.ref a), v3, v4] (.ref a :: st) h Q := PW_step rfl rfl rfl rfl
theorem u_36_43n : PW B X 36 43 [v0, v1, some .null, v3, v4] (st) h Q ↔ PW B X 36 44 [v0, v1, some .null, v3, v4] (.null :: st) h Q := PW_step rfl rfl rfl rfl
theorem u_36_44 : PW B X 36 44 [v0, v1, v2, some (.int x), v4] (st) h Q ↔ PW B X 36 45 [v0, v1, v2, some (.int x), v4] (.int x :: st) h Q := PW_step rfl rfl rfl rfl
theorem u_36_45 : PW B X 36 45 lv (st) h Q ↔ PW B X 36 46 lv (.int 1 :: st) h Q := PW_step rfl rfl rfl rfl
theorem u_36_46 : PW B X 36 46 [some (.ref a), v1, v2, v3, v4] (st) h Q ↔ PW B X 36 47 [some (.ref a), v1, v2, v3, v4] (.ref a :: st) h Q := PW_step rfl rfl rfl rfl
theorem u_36_46n : PW B X 36 46 [some .null, v1, v2, v3, v4] (st) h Q ↔ PW B X 36 47 [some .null, v1, v2, v3, v4] (.null :: st) h Q := PW_step rfl rfl rfl rfl
theorem u_36_47 : PW B X 36 47 lv (.ref a :: st) h Q ↔ pm_O (pm_gf (pm_at B h a) 6 1) (fun v => PW B X 36 50 lv (v :: st) h Q) := PW_getf rfl rfl
theorem u_36_50 : PW B X 36 50 lv (.ref r4 :: .int q3 :: .int q2 :: .ref r1 :: .int q0 :: .ref a :: st) h Q ↔ (pm_w st ≤ 8 ∧ pm_io B h a 3 = true ∧ PW B X 40 0 [some (.ref a), some (.int q0), some (.ref r1), some (.int q2), some (.int q3), some (.ref r4), none, none, none, none, none, none, none] [] h (fun r h' => PW B X 36 53 lv (r.toList ++ st) h' Q)) := PW_cv (y := 40) (as := [.int q0, .ref r1, .int q2, .int q3, .ref r4]) (rest := st) rfl rfl rfl rfl rfl ⟨Nat.le_of_ble_eq_true rfl, Nat.le_of_ble_eq_true rfl, Nat.le_of_ble_eq_true rfl⟩
theorem u_36_53 : PW B X 36 53 [some (.ref a), v1, v2, v3, v4] (st) h Q ↔ PW B X 36 54 [some (.ref a), v1, v2, v3, v4] (.ref a :: st) h Q := PW_step rfl rfl rfl rfl
theorem u_36_53n : PW B X 36 53 [some .null, v1, v2, v3, v4] (st) h Q ↔ PW B X 36 54 [some .null, v1, v2, v3, v4] (.null :: st) h Q := PW_step rfl rfl rfl rfl
theorem u_36_54 : PW B X 36 54 lv (.ref a :: st) h Q ↔ pm_O (pm_gf (pm_at B h a) 6 1) (fun v => PW B X 36 57 lv (v :: st) h Q) := PW_getf rfl rfl
theorem u_36_57 : PW B X 36 57 [some (.ref a), v1, v2, v3, v4] (st) h Q ↔ PW B X 36 58 [some (.ref a), v1, v2, v3, v4] (.ref a :: st) h Q := PW_step rfl rfl rfl rfl
theorem u_36_57n : PW B X 36 57 [some .null, v1, v2, v3, v4] (st) h Q ↔ PW B X 36 58 [some .null, v1, v2, v3, v4] (.null :: st) h Q := PW_step rfl rfl rfl rfl
theorem u_36_58 : PW B X 36 58 lv (.ref a :: st) h Q ↔ pm_O (pm_gf (pm_at B h a) 6 2) (fun v => PW B X 36 61 lv (v :: st) h Q) := PW_getf rfl rfl
theorem u_36_61 : PW B X 36 61 lv (.ref r0 :: .ref a :: st) h Q ↔ (pm_w st ≤ 8 ∧ pm_io B h a 7 = true ∧ PW B X 49 0 [some (.ref a), some (.ref r0), none, none, none] [] h (fun r h' => PW B X 36 64 lv (r.toList ++ st) h' Q)) := PW_cv (y := 49) (as := [.ref r0]) (rest := st) rfl rfl rfl rfl rfl ⟨Nat.le_of_ble_eq_true rfl, Nat.le_of_ble_eq_true rfl, Nat.le_of_ble_eq_true rfl⟩
theorem u_36_64 : PW B X 36 64 [some (.ref a), v1, v2, v3, v4] (st) h Q ↔ PW B X 36 65 [some (.ref a), v1, v2, v3, v4] (.ref a :: st) h Q := PW_step rfl rfl rfl rfl
theorem u_36_64n : PW B X 36 64 [some .null, v1, v2, v3, v4] (st) h Q ↔ PW B X 36 65 [some .null, v1, v2, v3, v4] (.null :: st) h Q := PW_step rfl rfl rfl rfl
theorem u_36_65 : PW B X 36 65 lv (.ref a :: st) h Q ↔ pm_O (pm_gf (pm_at B h a) 6 6) (fun v => PW B X 36 68 lv (v :: st) h Q) := PW_getf rfl rfl
theorem u_36_68 : PW B X 36 68 lv (st) h Q ↔ PW B X 36 69 lv (.int (-1) :: st) h Q := PW_step rfl rfl rfl rfl
theorem u_36_69 : PW B X 36 69 lv (.int y :: .int x :: st) h Q ↔ (if x = y then PW B X 36 90 lv (st) h Q else PW B X 36 72 lv (st) h Q) := PW_icmp rfl rfl pm_c_eq
theorem u_36_72 : PW B X 36 72 [some (.ref a), v1, v2, v3, v4] (st) h Q ↔ PW B X 36 73 [some (.ref a), v1, v2, v3, v4] (.ref a :: st) h Q := PW_step rfl rfl rfl rfl
theorem u_36_72n : PW B X 36 72 [some .null, v1, v2, v3, v4] (st) h Q ↔ PW B X 36 73 [some .null, v1, v2, v3, v4] (.null :: st) h Q := PW_step rfl rfl rfl rfl
theorem u_36_73 : PW B X 36 73 lv (.ref a :: st) h Q ↔ pm_O (pm_gf (pm_at B h a) 6 0) (fun v => PW B X 36 76 lv (v :: st) h Q) := PW_getf rfl rfl
theorem u_36_76 : PW B X 36 76 [some (.ref a), v1, v2, v3, v4] (st) h Q ↔ PW B X 36 77 [some (.ref a), v1, v2, v3, v4] (.ref a :: st) h Q := PW_step rfl rfl rfl rfl
theorem u_36_76n : PW B X 36 76 [some .null, v1, v2, v3, v4] (st) h Q ↔ PW B X 36 77 [some .null, v1, v2, v3, v4] (.null :: st) h Q := PW_step rfl rfl rfl rfl
theorem u_36_77 : PW B X 36 77 lv (.ref a :: st) h Q ↔ pm_O (pm_gf (pm_at B h a) 6 2) (fun v => PW B X 36 80 lv (v :: st) h Q) := PW_getf rfl rfl
theorem u_36_80 : PW B X 36 80 [some (.ref a), v1, v2, v3, v4] (st) h Q ↔ PW B X 36 81 [some (.ref a), v1, v2, v3, v4] (.ref a :: st) h Q := PW_step rfl rfl rfl rfl
theorem u_36_80n : PW B X 36 80 [some .null, v1, v2, v3, v4] (st) h Q ↔ PW B X 36 81 [some .null, v1, v2, v3, v4] (.null :: st) h Q := PW_step rfl rfl rfl rfl
theorem u_36_81 : PW B X 36 81 lv (.ref a :: st) h Q ↔ pm_O (pm_gf (pm_at B h a) 6 4) (fun v => PW B X 36 84 lv (v :: st) h Q) := PW_getf rfl rfl
theorem u_36_84 : PW B X 36 84 lv (.ref r1 :: .ref r0 :: .ref a :: st) h Q ↔ (pm_w st ≤ 8 ∧ pm_io B h a 4 = true ∧ PW B X 56 0 [some (.ref a), some (.ref r0), some (.ref r1)] [] h (fun r h' => PW B X 36 87 lv (r.toList ++ st) h' Q)) := PW_cv (y := 56) (as := [.ref r0, .ref r1]) (rest := st) rfl rfl rfl rfl rfl ⟨Nat.le_of_ble_eq_true rfl, Nat.le_of_ble_eq_true rfl, Nat.le_of_ble_eq_true rfl⟩
theorem u_36_87 : PW B X 36 87 lv (.int x :: st) h Q ↔ (if x ≤ 0 then PW B X 36 107 lv (st) h Q else PW B X 36 90 lv (st) h Q) := PW_if rfl rfl pm_c_le
theorem u_36_90 : PW B X 36 90 [some (.ref a), v1, v2, v3, v4] (st) h Q ↔ PW B X 36 91 [some (.ref a), v1, v2, v3, v4] (.ref a :: st) h Q := PW_step rfl rfl rfl rfl
theorem u_36_90n : PW B X 36 90 [some .null, v1, v2, v3, v4] (st) h Q ↔ PW B X 36 91 [some .null, v1, v2, v3, v4] (.null :: st) h Q := PW_step rfl rfl rfl rfl
theorem u_36_91 : PW B X 36 91 lv (.ref a :: st) h Q ↔ pm_O (pm_gf (pm_at B h a) 6 4) (fun v => PW B X 36 94 lv (v :: st) h Q) := PW_getf rfl rfl
theorem u_36_94 : PW B X 36 94 [some (.ref a), v1, v2, v3, v4] (st) h Q ↔ PW B X 36 95 [some (.ref a), v1, v2, v3, v4] (.ref a :: st) h Q := PW_step rfl rfl rfl rfl
theorem u_36_94n : PW B X 36 94 [some .null, v1, v2, v3, v4] (st) h Q ↔ PW B X 36 95 [some .null, v1, v2, v3, v4] (.null :: st) h Q := PW_step rfl rfl rfl rfl
theorem u_36_95 : PW B X 36 95 lv (.ref a :: st) h Q ↔ pm_O (pm_gf (pm_at B h a) 6 2) (fun v => PW B X 36 98 lv (v :: st) h Q) := PW_getf rfl rfl
theorem u_36_98 : PW B X 36 98 lv (.ref r0 :: .ref a :: st) h Q ↔ (pm_w st ≤ 8 ∧ pm_io B h a 8 = true ∧ PW B X 59 0 [some (.ref a), some (.ref r0)] [] h (fun r h' => PW B X 36 101 lv (r.toList ++ st) h' Q)) := PW_cv (y := 59) (as := [.ref r0]) (rest := st) rfl rfl rfl rfl rfl ⟨Nat.le_of_ble_eq_true rfl, Nat.le_of_ble_eq_true rfl, Nat.le_of_ble_eq_true rfl⟩
theorem u_36_101 : PW B X 36 101 [some (.ref a), v1, v2, v3, v4] (st) h Q ↔ PW B X 36 102 [some (.ref a), v1, v2, v3, v4] (.ref a :: st) h Q := PW_step rfl rfl rfl rfl
theorem u_36_101n : PW B X 36 101 [some .null, v1, v2, v3, v4] (st) h Q ↔ PW B X 36 102 [some .null, v1, v2, v3, v4] (.null :: st) h Q := PW_step rfl rfl rfl rfl
theorem u_36_102 : PW B X 36 102 [v0, v1, v2, v3, some (.int x)] (st) h Q ↔ PW B X 36 104 [v0, v1, v2, v3, some (.int x)] (.int x :: st) h Q := PW_step rfl rfl rfl rfl
theorem u_36_104 : PW B X 36 104 lv (v :: .ref a :: st) h Q ↔ pm_O (pm_pf (pm_at B h a) 6 6 v) (fun e => PW B X 36 107 lv (st) (pm_set B h a e) Q) := PW_putf rfl rfl
theorem u_36_107 : PW B X 36 107 [v0, some (.ref a), v2, v3, v4] (st) h Q ↔ PW B X 36 108 [v0, some (.ref a), v2, v3, v4] (.ref a :: st) h Q := PW_step rfl rfl rfl rfl
theorem u_36_107n : PW B X 36 107 [v0, some .null, v2, v3, v4] (st) h Q ↔ PW B X 36 108 [v0, some .null, v2, v3, v4] (.null :: st) h Q := PW_step rfl rfl rfl rfl
theorem u_36_108 : PW B X 36 108 [v0, v1, v2, v3, some (.int x)] (st) h Q ↔ PW B X 36 110 [v0, v1, v2, v3, some (.int x)] (.int x :: st) h Q := PW_step rfl rfl rfl rfl
theorem u_36_110 : PW B X 36 110 [v0, v1, some (.ref a), v3, v4] (st) h Q ↔ PW B X 36 111 [v0, v1, some (.ref a), v3, v4] (.ref a :: st) h Q := PW_step rfl rfl rfl rfl
theorem u_36_110n : PW B X 36 110 [v0, v1, some .null, v3, v4] (st) h Q ↔ PW B X 36 111 [v0, v1, some .null, v3, v4] (.null :: st) h Q := PW_step rfl rfl rfl rfl
theorem u_36_111 : PW B X 36 111 [v0, v1, v2, some (.int x), v4] (st) h Q ↔ PW B X 36 112 [v0, v1, v2, some (.int x), v4] (.int x :: st) h Q := PW_step rfl rfl rfl rfl
theorem u_36_112 : PW B X 36 112 lv (st) h Q ↔ PW B X 36 113 lv (.int (-1) :: st) h Q := PW_step rfl rfl rfl rfl
theorem u_36_113 : PW B X 36 113 [some (.ref a), v1, v2, v3, v4] (st) h Q ↔ PW B X 36 114 [some (.ref a), v1, v2, v3, v4] (.ref a :: st) h Q := PW_step rfl rfl rfl rfl
theorem u_36_113n : PW B X 36 113 [some .null, v1, v2, v3, v4] (st) h Q ↔ PW B X 36 114 [some .null, v1, v2, v3, v4] (.null :: st) h Q := PW_step rfl rfl rfl rfl
theorem u_36_114 : PW B X 36 114 lv (.ref a :: st) h Q ↔ pm_O (pm_gf (pm_at B h a) 6 1) (fun v => PW B X 36 117 lv (v :: st) h Q) := PW_getf rfl rfl
theorem u_36_117 : PW B X 36 117 lv (.ref r4 :: .int q3 :: .int q2 :: .ref r1 :: .int q0 :: .ref a :: st) h Q ↔ (pm_w st ≤ 8 ∧ pm_io B h a 3 = true ∧ PW B X 40 0 [some (.ref a), some (.int q0), some (.ref r1), some (.int q2), some (.int q3), some (.ref r4), none, none, none, none, none, none, none] [] h (fun r h' => PW B X 36 120 lv (r.toList ++ st) h' Q)) := PW_cv (y := 40) (as := [.int q0, .ref r1, .int q2, .int q3, .ref r4]) (rest := st) rfl rfl rfl rfl rfl ⟨Nat.le_of_ble_eq_true rfl, Nat.le_of_ble_eq_true rfl, Nat.le_of_ble_eq_true rfl⟩
theorem u_36_120 : PW B X 36 120 [some (.ref a), v1, v2, v3, v4] (st) h Q ↔ PW B X 36 121 [some (.ref a), v1, v2, v3, v4] (.ref a :: st) h Q := PW_step rfl rfl rfl rfl
theorem u_36_120n : PW B X 36 120 [some .null, v1, v2, v3, v4] (st) h Q ↔ PW B X 36 121 [some .null, v1, v2, v3, v4] (.null :: st) h Q := PW_step rfl rfl rfl rfl
theorem u_36_121 : PW B X 36 121 lv (.ref a :: st) h Q ↔ pm_O (pm_gf (pm_at B h a) 6 1) (fun v => PW B X 36 124 lv (v :: st) h Q) := PW_getf rfl rfl
theorem u_36_124 : PW B X 36 124 [some (.ref a), v1, v2, v3, v4] (st) h Q ↔ PW B X 36 125 [some (.ref a), v1, v2, v3, v4] (.ref a :: st) h Q := PW_step rfl rfl rfl rfl
theorem u_36_124n : PW B X 36 124 [some .null, v1, v2, v3, v4] (st) h Q ↔ PW B X 36 125 [some .null, v1, v2, v3, v4] (.null :: st) h Q := PW_step rfl rfl rfl rfl
theorem u_36_125 : PW B X 36 125 lv (.ref a :: st) h Q ↔ pm_O (pm_gf (pm_at B h a) 6 2) (fun v => PW B X 36 128 lv (v :: st) h Q) := PW_getf rfl rfl
theorem u_36_128 : PW B X 36 128 lv (.ref r0 :: .ref a :: st) h Q ↔ (pm_w st ≤ 8 ∧ pm_io B h a 7 = true ∧ PW B X 49 0 [some (.ref a), some (.ref r0), none, none, none] [] h (fun r h' => PW B X 36 131 lv (r.toList ++ st) h' Q)) := PW_cv (y := 49) (as := [.ref r0]) (rest := st) rfl rfl rfl rfl rfl ⟨Nat.le_of_ble_eq_true rfl, Nat.le_of_ble_eq_true rfl, Nat.le_of_ble_eq_true rfl⟩
theorem u_36_131 : PW B X 36 131 [some (.ref a), v1, v2, v3, v4] (st) h Q ↔ PW B X 36 132 [some (.ref a), v1, v2, v3, v4] (.ref a :: st) h Q := PW_step rfl rfl rfl rfl
theorem u_36_131n : PW B X 36 131 [some .null, v1, v2, v3, v4] (st) h Q ↔ PW B X 36 132 [some .null, v1, v2, v3, v4] (.null :: st) h Q := PW_step rfl rfl rfl rfl
theorem u_36_132 : PW B X 36 132 lv (.ref a :: st) h Q ↔ pm_O (pm_gf (pm_at B h a) 6 5) (fun v => PW B X 36 135 lv (v :: st) h Q) := PW_getf rfl rfl
theorem u_36_135 : PW B X 36 135 lv (st) h Q ↔ PW B X 36 136 lv (.int (-1) :: st) h Q := PW_step rfl rfl rfl rfl
theorem u_36_136 : PW B X 36 136 lv (.int y :: .int x :: st) h Q ↔ (if x = y then PW B X 36 157 lv (st) h Q else PW B X 36 139 lv (st) h Q) := PW_icmp rfl rfl pm_c_eq
theorem u_36_139 : PW B X 36 139 [some (.ref a), v1, v2, v3, v4] (st) h Q ↔ PW B X 36 140 [some (.ref a), v1, v2, v3, v4] (.ref a :: st) h Q := PW_step rfl rfl rfl rfl
theorem u_36_139n : PW B X 36 139 [some .null, v1, v2, v3, v4] (st) h Q ↔ PW B X 36 140 [some .null, v1, v2, v3, v4] (.null :: st) h Q := PW_step rfl rfl rfl rfl
theorem u_36_140 : PW B X 36 140 lv (.ref a :: st) h Q ↔ pm_O (pm_gf (pm_at B h a) 6 0) (fun v => PW B X 36 143 lv (v :: st) h Q) := PW_getf rfl rfl
theorem u_36_143 : PW B X 36 143 [some (.ref a), v1, v2, v3, v4] (st) h Q ↔ PW B X 36 144 [some (.ref a), v1, v2, v3, v4] (.ref a :: st) h Q := PW_step rfl rfl rfl rfl
theorem u_36_143n : PW B X 36 143 [some .null, v1, v2, v3, v4] (st) h Q ↔ PW B X 36 144 [some .null, v1, v2, v3, v4] (.null :: st) h Q := PW_step rfl rfl rfl rfl
theorem u_36_144 : PW B X 36 144 lv (.ref a :: st) h Q ↔ pm_O (pm_gf (pm_at B h a) 6 2) (fun v => PW B X 36 147 lv (v :: st) h Q) := PW_getf rfl rfl
theorem u_36_147 : PW B X 36 147 [some (.ref a), v1, v2, v3, v4] (st) h Q ↔ PW B X 36 148 [some (.ref a), v1, v2, v3, v4] (.ref a :: st) h Q := PW_step rfl rfl rfl rfl
theorem u_36_147n : PW B X 36 147 [some .null, v1, v2, v3, v4] (st) h Q ↔ PW B X 36 148 [some .null, v1, v2, v3, v4] (.null :: st) h Q := PW_step rfl rfl rfl rfl
theorem u_36_148 : PW B X 36 148 lv (.ref a :: st) h Q ↔ pm_O (pm_gf (pm_at B h a) 6 3) (fun v => PW B X 36 151 lv (v :: st) h Q) := PW_getf rfl rfl
theorem u_36_151 : PW B X 36 151 lv (.ref r1 :: .ref r0 :: .ref a :: st) h Q ↔ (pm_w st ≤ 8 ∧ pm_io B h a 4 = true ∧ PW B X 56 0 [some (.ref a), some (.ref r0), some (.ref r1)] [] h (fun r h' => PW B X 36 154 lv (r.toList ++ st) h' Q)) := PW_cv (y := 56) (as := [.ref r0, .ref r1]) (rest := st) rfl rfl rfl rfl rfl ⟨Nat.le_of_ble_eq_true rfl, Nat.le_of_ble_eq_true rfl, Nat.le_of_ble_eq_true rfl⟩
theorem u_36_154 : PW B X 36 154 lv (.int x :: st) h Q ↔ (if 0 ≤ x then PW B X 36 174 lv (st) h Q else PW B X 36 157 lv (st) h Q) := PW_if rfl rfl pm_c_ge
theorem u_36_157 : PW B X 36 157 [some (.ref a), v1, v2, v3, v4] (st) h Q ↔ PW B X 36 158 [some (.ref a), v1, v2, v3, v4] (.ref a :: st) h Q := PW_step rfl rfl rfl rfl
theorem u_36_157n : PW B X 36 157 [some .null, v1, v2, v3, v4] (st) h Q ↔ PW B X 36 158 [some .null, v1, v2, v3, v4] (.null :: st) h Q := PW_step rfl rfl rfl rfl
theorem u_36_158 : PW B X 36 158 lv (.ref a :: st) h Q ↔ pm_O (pm_gf (pm_at B h a) 6 3) (fun v => PW B X 36 161 lv (v :: st) h Q) := PW_getf rfl rfl
theorem u_36_161 : PW B X 36 161 [some (.ref a), v1, v2, v3, v4] (st) h Q ↔ PW B X 36 162 [some (.ref a), v1, v2, v3, v4] (.ref a :: st) h Q := PW_step rfl rfl rfl rfl
theorem u_36_161n : PW B X 36 161 [some .null, v1, v2, v3, v4] (st) h Q ↔ PW B X 36 162 [some .null, v1, v2, v3, v4] (.null :: st) h Q := PW_step rfl rfl rfl rfl
theorem u_36_162 : PW B X 36 162 lv (.ref a :: st) h Q ↔ pm_O (pm_gf (pm_at B h a) 6 2) (fun v => PW B X 36 165 lv (v :: st) h Q) := PW_getf rfl rfl
theorem u_36_165 : PW B X 36 165 lv (.ref r0 :: .ref a :: st) h Q ↔ (pm_w st ≤ 8 ∧ pm_io B h a 8 = true ∧ PW B X 59 0 [some (.ref a), some (.ref r0)] [] h (fun r h' => PW B X 36 168 lv (r.toList ++ st) h' Q)) := PW_cv (y := 59) (as := [.ref r0]) (rest := st) rfl rfl rfl rfl rfl ⟨Nat.le_of_ble_eq_true rfl, Nat.le_of_ble_eq_true rfl, Nat.le_of_ble_eq_true rfl⟩
theorem u_36_168 : PW B X 36 168 [some (.ref a), v1, v2, v3, v4] (st) h Q ↔ PW B X 36 169 [some (.ref a), v1, v2, v3, v4] (.ref a :: st) h Q := PW_step rfl rfl rfl rfl
theorem u_36_168n : PW B X 36 168 [some .null, v1, v2, v3, v4] (st) h Q ↔ PW B X 36 169 [some .null, v1, v2, v3, v4] (.null :: st) h Q := PW_step rfl rfl rfl rfl
theorem u_36_169 : PW B X 36 169 [v0, v1, v2, v3, some (.int x)] (st) h Q ↔ PW B X 36 171 [v0, v1, v2, v3, some (.int x)] (.int x :: st) h Q := PW_step rfl rfl rfl rfl
theorem u_36_171 : PW B X 36 171 lv (v :: .ref a :: st) h Q ↔ pm_O (pm_pf (pm_at B h a) 6 5 v) (fun e => PW B X 36 174 lv (st) (pm_set B h a e) Q) := PW_putf rfl rfl
theorem u_36_174 : PW B X 36 174 [v0, v1, v2, v3, some (.int x)] (st) h Q ↔ PW B X 36 177 [v0, v1, v2, pm_c v3, some (.int (x + 1))] (st) h Q := PW_step rfl rfl rfl rfl
theorem u_36_177 : PW B X 36 177 lv (st) h Q ↔ PW B X 36 31 lv (st) h Q := PW_step rfl rfl rfl rfl
theorem u_36_180 : PW B X 36 180 lv ([]) h Q ↔ Q none h := PW_ret rfl rfl
-- 40 RuleSet_addUp
theorem u_40_0 : PW B X 40 0 [v0, v1, v2, v3, v4, some (.ref a), v6, v7, v8, v9, v10, v11, v12] (st) h Q ↔ PW B X 40 2 [v0, v1, v2, v3, v4, some (.ref a), v6, v7, v8, v9, v10, v11, v12] (.ref a :: st) h Q := PW_step rfl rfl rfl rfl
theorem u_40_0n : PW B X 40 0 [v0, v1, v2, v3, v4, some .null, v6, v7, v8, v9, v10, v11, v12] (st) h Q ↔ PW B X 40 2 [v0, v1, v2, v3, v4, some .null, v6, v7, v8, v9, v10, v11, v12] (.null :: st) h Q := PW_step rfl rfl rfl rfl
theorem u_40_2 : PW B X 40 2 lv (.ref a :: st) h Q ↔ (pm_w st ≤ 8 ∧ pm_io B h a 7 = true ∧ PW B X 41 0 [some (.ref a)] [] h (fun r h' => PW B X 40 5 lv (r.toList ++ st) h' Q)) := PW_cv (y := 41) (as := []) (rest := st) rfl rfl rfl rfl rfl ⟨Nat.le_of_ble_eq_true rfl, Nat.le_of_ble_eq_true rfl, Nat.le_of_ble_eq_true rfl⟩
theorem u_40_5 : PW B X 40 5 lv (st) h Q ↔ PW B X 40 6 lv (.int 0 :: st) h Q := PW_step rfl rfl rfl rfl
theorem u_40_6 : PW B X 40 6 [v0, v1, v2, v3, v4, v5, v6, v7, v8, v9, v10, v11, v12] (.int x :: st) h Q ↔ PW B X 40 8 [v0, v1, v2, v3, v4, pm_c v5, some (.int x), v7, v8, v9, v10, v11, v12] (st) h Q := PW_step rfl rfl rfl rfl
theorem u_40_8 : PW B X 40 8 [v0, v1, v2, v3, v4, v5, some (.int x), v7, v8, v9, v10, v11, v12] (st) h Q ↔ PW B X 40 10 [v0, v1, v2, v3, v4, v5, some (.int x), v7, v8, v9, v10, v11, v12] (.int x :: st) h Q := PW_step rfl rfl rfl rfl
theorem u_40_10 : PW B X 40 10 [some (.ref a), v1, v2, v3, v4, v5, v6, v7, v8, v9, v10, v11, v12] (st) h Q ↔ PW B X 40 11 [some (.ref a), v1, v2, v3, v4, v5, v6, v7, v8, v9, v10, v11, v12] (.ref a :: st) h Q := PW_step rfl rfl rfl rfl
theorem u_40_10n : PW B X 40 10 [some .null, v1, v2, v3, v4, v5, v6, v7, v8, v9, v10, v11, v12] (st) h Q ↔ PW B X 40 11 [some .null, v1, v2, v3, v4, v5, v6, v7, v8, v9, v10, v11, v12] (.null :: st) h Q := PW_step rfl rfl rfl rfl
theorem u_40_11 : PW B X 40 11 lv (.ref a :: st) h Q ↔ pm_O (pm_gf (pm_at B h a) 3 4) (fun v => PW B X 40 14 lv (v :: st) h Q) := PW_getf rfl rfl
theorem u_40_14 : PW B X 40 14 [v0, some (.int x), v2, v3, v4, v5, v6, v7, v8, v9, v10, v11, v12] (st) h Q ↔ PW B X 40 15 [v0, some (.int x), v2, v3, v4, v5, v6, v7, v8, v9, v10, v11, v12] (.int x :: st) h Q := PW_step rfl rfl rfl rfl
theorem u_40_15 : PW B X 40 15 lv (.int x :: .ref a :: st) h Q ↔ pm_O (pm_ldi 0 (pm_at B h a) x) (fun v => PW B X 40 16 lv (v :: st) h Q) := PW_iald rfl rfl
theorem u_40_16 : PW B X 40 16 lv (.int y :: .int x :: st) h Q ↔ (if y ≤ x then PW B X 40 106 lv (st) h Q else PW B X 40 19 lv (st) h Q) := PW_icmp rfl rfl pm_c_ge
theorem u_40_19 : PW B X 40 19 [v0, some (.int x), v2, v3, v4, v5, v6, v7, v8, v9, v10, v11, v12] (st) h Q ↔ PW B X 40 20 [v0, some (.int x), v2, v3, v4, v5, v6, v7, v8, v9, v10, v11, v12] (.int x :: st) h Q := PW_step rfl rfl rfl rfl
theorem u_40_20 : PW B X 40 20 lv (st) h Q ↔ PW B X 40 22 lv (.int 6 :: st) h Q := PW_step rfl rfl rfl rfl
theorem u_40_22 : PW B X 40 22 lv (.int y :: .int x :: st) h Q ↔ PW B X 40 23 lv (.int (x * y) :: st) h Q := PW_step rfl rfl rfl rfl
theorem u_40_23 : PW B X 40 23 [v0, v1, v2, v3, v4, v5, some (.int x), v7, v8, v9, v10, v11, v12] (st) h Q ↔ PW B X 40 25 [v0, v1, v2, v3, v4, v5, some (.int x), v7, v8, v9, v10, v11, v12] (.int x :: st) h Q := PW_step rfl rfl rfl rfl
theorem u_40_25 : PW B X 40 25 lv (.int y :: .int x :: st) h Q ↔ PW B X 40 26 lv (.int (x + y) :: st) h Q := PW_step rfl rfl rfl rfl
theorem u_40_26 : PW B X 40 26 [v0, v1, v2, v3, v4, v5, v6, v7, v8, v9, v10, v11, v12] (.int x :: st) h Q ↔ PW B X 40 28 [v0, v1, v2, v3, v4, v5, pm_c v6, some (.int x), v8, v9, v10, v11, v12] (st) h Q := PW_step rfl rfl rfl rfl
theorem u_40_28 : PW B X 40 28 [some (.ref a), v1, v2, v3, v4, v5, v6, v7, v8, v9, v10, v11, v12] (st) h Q ↔ PW B X 40 29 [some (.ref a), v1, v2, v3, v4, v5, v6, v7, v8, v9, v10, v11, v12] (.ref a :: st) h Q := PW_step rfl rfl rfl rfl
theorem u_40_28n : PW B X 40 28 [some .null, v1, v2, v3, v4, v5, v6, v7, v8, v9, v10, v11, v12] (st) h Q ↔ PW B X 40 29 [some .null, v1, v2, v3, v4, v5, v6, v7, v8, v9, v10, v11, v12] (.null :: st) h Q := PW_step rfl rfl rfl rfl
theorem u_40_29 : PW B X 40 29 lv (.ref a :: st) h Q ↔ pm_O (pm_gf (pm_at B h a) 3 3) (fun v => PW B X 40 32 lv (v :: st) h Q) := PW_getf rfl rfl
theorem u_40_32 : PW B X 40 32 [v0, v1, v2, v3, v4, v5, v6, some (.int x), v8, v9, v10, v11, v12] (st) h Q ↔ PW B X 40 34 [v0, v1, v2, v3, v4, v5, v6, some (.int x), v8, v9, v10, v11, v12] (.int x :: st) h Q := PW_step rfl rfl rfl rfl
theorem u_40_34 : PW B X 40 34 lv (.int x :: .ref a :: st) h Q ↔ pm_O (pm_ldi 0 (pm_at B h a) x) (fun v => PW B X 40 35 lv (v :: st) h Q) := PW_iald rfl rfl
theorem u_40_35 : PW B X 40 35 lv (st) h Q ↔ PW B X 40 36 lv (.int 3 :: st) h Q := PW_step rfl rfl rfl rfl
theorem u_40_36 : PW B X 40 36 lv (.int y :: .int x :: st) h Q ↔ PW B X 40 37 lv (.int (x * y) :: st) h Q := PW_step rfl rfl rfl rfl
theorem u_40_37 : PW B X 40 37 [v0, v1, v2, some (.int x), v4, v5, v6, v7, v8, v9, v10, v11, v12] (st) h Q ↔ PW B X 40 38 [v0, v1, v2, some (.int x), v4, v5, v6, v7, v8, v9, v10, v11, v12] (.int x :: st) h Q := PW_step rfl rfl rfl rfl
theorem u_40_38 : PW B X 40 38 lv (.int y :: .int x :: st) h Q ↔ PW B X 40 39 lv (.int (x + y) :: st) h Q := PW_step rfl rfl rfl rfl
theorem u_40_39 : PW B X 40 39 [v0, v1, v2, v3, v4, v5, v6, v7, v8, v9, v10, v11, v12] (.int x :: st) h Q ↔ PW B X 40 41 [v0, v1, v2, v3, v4, v5, v6, pm_c v7, some (.int x), v9, v10, v11, v12] (st) h Q := PW_step rfl rfl rfl rfl
theorem u_40_41 : PW B X 40 41 [some (.ref a), v1, v2, v3, v4, v5, v6, v7, v8, v9, v10, v11, v12] (st) h Q ↔ PW B X 40 42 [some (.ref a), v1, v2, v3, v4, v5, v6, v7, v8, v9, v10, v11, v12] (.ref a :: st) h Q := PW_step rfl rfl rfl rfl
theorem u_40_41n : PW B X 40 41 [some .null, v1, v2, v3, v4, v5, v6, v7, v8, v9, v10, v11, v12] (st) h Q ↔ PW B X 40 42 [some .null, v1, v2, v3, v4, v5, v6, v7, v8, v9, v10, v11, v12] (.null :: st) h Q := PW_step rfl rfl rfl rfl
theorem u_40_42 : PW B X 40 42 lv (.ref a :: st) h Q ↔ pm_O (pm_gf (pm_at B h a) 3 1) (fun v => PW B X 40 45 lv (v :: st) h Q) := PW_getf rfl rfl
theorem u_40_45 : PW B X 40 45 [v0, v1, v2, v3, v4, v5, v6, some (.int x), v8, v9, v10, v11, v12] (st) h Q ↔ PW B X 40 47 [v0, v1, v2, v3, v4, v5, v6, some (.int x), v8, v9, v10, v11, v12] (.int x :: st) h Q := PW_step rfl rfl rfl rfl
theorem u_40_47 : PW B X 40 47 lv (.int x :: .ref a :: st) h Q ↔ pm_O (pm_ldi 0 (pm_at B h a) x) (fun v => PW B X 40 48 lv (v :: st) h Q) := PW_iald rfl rfl
theorem u_40_48 : PW B X 40 48 lv (.int x :: st) h Q ↔ PW B X 40 49 lv (.long x.toInt64 :: st) h Q := PW_step rfl rfl rfl rfl
theorem u_40_49 : PW B X 40 49 [v0, v1, some (.ref a), v3, v4, v5, v6, v7, v8, v9, v10, v11, v12] (st) h Q ↔ PW B X 40 50 [v0, v1, some (.ref a), v3, v4, v5, v6, v7, v8, v9, v10, v11, v12] (.ref a :: st) h Q := PW_step rfl rfl rfl rfl
theorem u_40_49n : PW B X 40 49 [v0, v1, some .null, v3, v4, v5, v6, v7, v8, v9, v10, v11, v12] (st) h Q ↔ PW B X 40 50 [v0, v1, some .null, v3, v4, v5, v6, v7, v8, v9, v10, v11, v12] (.null :: st) h Q := PW_step rfl rfl rfl rfl
theorem u_40_50 : PW B X 40 50 lv (.ref a :: st) h Q ↔ pm_O (pm_gf (pm_at B h a) 9 4) (fun v => PW B X 40 53 lv (v :: st) h Q) := PW_getf rfl rfl
theorem u_40_53 : PW B X 40 53 [v0, v1, v2, v3, v4, v5, v6, v7, some (.int x), v9, v10, v11, v12] (st) h Q ↔ PW B X 40 55 [v0, v1, v2, v3, v4, v5, v6, v7, some (.int x), v9, v10, v11, v12] (.int x :: st) h Q := PW_step rfl rfl rfl rfl
theorem u_40_55 : PW B X 40 55 lv (.int x :: .ref a :: st) h Q ↔ pm_O (pm_ldi 0 (pm_at B h a) x) (fun v => PW B X 40 56 lv (v :: st) h Q) := PW_iald rfl rfl
theorem u_40_56 : PW B X 40 56 lv (.int x :: st) h Q ↔ PW B X 40 57 lv (.long x.toInt64 :: st) h Q := PW_step rfl rfl rfl rfl
theorem u_40_57 : PW B X 40 57 lv (.long w :: .long z :: st) h Q ↔ PW B X 40 58 lv (.long (z * w) :: st) h Q := PW_step rfl rfl rfl rfl
theorem u_40_58 : PW B X 40 58 [v0, v1, v2, v3, v4, v5, v6, v7, v8, v9, v10, v11, v12] (.long z :: st) h Q ↔ PW B X 40 60 [v0, v1, v2, v3, v4, v5, v6, v7, pm_c v8, some (.long z), none, v11, v12] (st) h Q := PW_step rfl rfl rfl rfl
theorem u_40_60 : PW B X 40 60 [some (.ref a), v1, v2, v3, v4, v5, v6, v7, v8, v9, v10, v11, v12] (st) h Q ↔ PW B X 40 61 [some (.ref a), v1, v2, v3, v4, v5, v6, v7, v8, v9, v10, v11, v12] (.ref a :: st) h Q := PW_step rfl rfl rfl rfl
theorem u_40_60n : PW B X 40 60 [some .null, v1, v2, v3, v4, v5, v6, v7, v8, v9, v10, v11, v12] (st) h Q ↔ PW B X 40 61 [some .null, v1, v2, v3, v4, v5, v6, v7, v8, v9, v10, v11, v12] (.null :: st) h Q := PW_step rfl rfl rfl rfl
theorem u_40_61 : PW B X 40 61 lv (.ref a :: st) h Q ↔ pm_O (pm_gf (pm_at B h a) 3 2) (fun v => PW B X 40 64 lv (v :: st) h Q) := PW_getf rfl rfl
theorem u_40_64 : PW B X 40 64 [v0, v1, v2, v3, v4, v5, v6, some (.int x), v8, v9, v10, v11, v12] (st) h Q ↔ PW B X 40 66 [v0, v1, v2, v3, v4, v5, v6, some (.int x), v8, v9, v10, v11, v12] (.int x :: st) h Q := PW_step rfl rfl rfl rfl
theorem u_40_66 : PW B X 40 66 lv (.int x :: .ref a :: st) h Q ↔ pm_O (pm_ldi 0 (pm_at B h a) x) (fun v => PW B X 40 67 lv (v :: st) h Q) := PW_iald rfl rfl
theorem u_40_67 : PW B X 40 67 lv (.int x :: st) h Q ↔ PW B X 40 68 lv (.long x.toInt64 :: st) h Q := PW_step rfl rfl rfl rfl
theorem u_40_68 : PW B X 40 68 [v0, v1, some (.ref a), v3, v4, v5, v6, v7, v8, v9, v10, v11, v12] (st) h Q ↔ PW B X 40 69 [v0, v1, some (.ref a), v3, v4, v5, v6, v7, v8, v9, v10, v11, v12] (.ref a :: st) h Q := PW_step rfl rfl rfl rfl
theorem u_40_68n : PW B X 40 68 [v0, v1, some .null, v3, v4, v5, v6, v7, v8, v9, v10, v11, v12] (st) h Q ↔ PW B X 40 69 [v0, v1, some .null, v3, v4, v5, v6, v7, v8, v9, v10, v11, v12] (.null :: st) h Q := PW_step rfl rfl rfl rfl
theorem u_40_69 : PW B X 40 69 lv (.ref a :: st) h Q ↔ pm_O (pm_gf (pm_at B h a) 9 5) (fun v => PW B X 40 72 lv (v :: st) h Q) := PW_getf rfl rfl
theorem u_40_72 : PW B X 40 72 [v0, v1, v2, v3, v4, v5, v6, v7, some (.int x), v9, v10, v11, v12] (st) h Q ↔ PW B X 40 74 [v0, v1, v2, v3, v4, v5, v6, v7, some (.int x), v9, v10, v11, v12] (.int x :: st) h Q := PW_step rfl rfl rfl rfl
theorem u_40_74 : PW B X 40 74 lv (.int x :: .ref a :: st) h Q ↔ pm_O (pm_ldi 0 (pm_at B h a) x) (fun v => PW B X 40 75 lv (v :: st) h Q) := PW_iald rfl rfl
theorem u_40_75 : PW B X 40 75 lv (.int x :: st) h Q ↔ PW B X 40 76 lv (.long x.toInt64 :: st) h Q := PW_step rfl rfl rfl rfl
theorem u_40_76 : PW B X 40 76 lv (.long w :: .long z :: st) h Q ↔ PW B X 40 77 lv (.long (z * w) :: st) h Q := PW_step rfl rfl rfl rfl
theorem u_40_77 : PW B X 40 77 [v0, v1, v2, v3, v4, v5, v6, v7, v8, v9, v10, v11, v12] (.long z :: st) h Q ↔ PW B X 40 79 [v0, v1, v2, v3, v4, v5, v6, v7, v8, v9, pm_c v10, some (.long z), none] (st) h Q := PW_step rfl rfl rfl rfl
theorem u_40_79 : PW B X 40 79 [v0, v1, v2, v3, v4, some (.ref a), v6, v7, v8, v9, v10, v11, v12] (st) h Q ↔ PW B X 40 81 [v0, v1, v2, v3, v4, some (.ref a), v6, v7, v8, v9, v10, v11, v12] (.ref a :: st) h Q := PW_step rfl rfl rfl rfl
theorem u_40_79n : PW B X 40 79 [v0, v1, v2, v3, v4, some .null, v6, v7, v8, v9, v10, v11, v12] (st) h Q ↔ PW B X 40 81 [v0, v1, v2, v3, v4, some .null, v6, v7, v8, v9, v10, v11, v12] (.null :: st) h Q := PW_step rfl rfl rfl rfl
theorem u_40_81 : PW B X 40 81 [some (.ref a), v1, v2, v3, v4, v5, v6, v7, v8, v9, v10, v11, v12] (st) h Q ↔ PW B X 40 82 [some (.ref a), v1, v2, v3, v4, v5, v6, v7, v8, v9, v10, v11, v12] (.ref a :: st) h Q := PW_step rfl rfl rfl rfl
theorem u_40_81n : PW B X 40 81 [some .null, v1, v2, v3, v4, v5, v6, v7, v8, v9, v10, v11, v12] (st) h Q ↔ PW B X 40 82 [some .null, v1, v2, v3, v4, v5, v6, v7, v8, v9, v10, v11, v12] (.null :: st) h Q := PW_step rfl rfl rfl rfl
theorem u_40_82 : PW B X 40 82 lv (.ref a :: st) h Q ↔ pm_O (pm_gf (pm_at B h a) 3 0) (fun v => PW B X 40 85 lv (v :: st) h Q) := PW_getf rfl rfl
theorem u_40_85 : PW B X 40 85 [v0, v1, v2, v3, v4, v5, v6, some (.int x), v8, v9, v10, v11, v12] (st) h Q ↔ PW B X 40 87 [v0, v1, v2, v3, v4, v5, v6, some (.int x), v8, v9, v10, v11, v12] (.int x :: st) h Q := PW_step rfl rfl rfl rfl
theorem u_40_87 : PW B X 40 87 lv (.int x :: .ref a :: st) h Q ↔ pm_O (pm_ldi 2 (pm_at B h a) x) (fun v => PW B X 40 88 lv (v :: st) h Q) := PW_cald rfl
theorem u_40_88 : PW B X 40 88 [v0, v1, v2, v3, v4, v5, v6, v7, v8, some (.long z), v10, v11, v12] (st) h Q ↔ PW B X 40 90 [v0, v1, v2, v3, v4, v5, v6, v7, v8, some (.long z), v10, v11, v12] (.long z :: st) h Q := PW_step rfl rfl rfl rfl
theorem u_40_90 : PW B X 40 90 [v0, v1, v2, v3, some (.int x), v5, v6, v7, v8, v9, v10, v11, v12] (st) h Q ↔ PW B X 40 92 [v0, v1, v2, v3, some (.int x), v5, v6, v7, v8, v9, v10, v11, v12] (.int x :: st) h Q := PW_step rfl rfl rfl rfl
theorem u_40_92 : PW B X 40 92 lv (.int q2 :: .long p1 :: .int q0 :: st) h Q ↔ (pm_w st ≤ 8 ∧ PW B X 42 0 [some (.int q0), some (.long p1), none, some (.int q2)] [] h (fun r h' => PW B X 40 95 lv (r.toList ++ st) h' Q)) := PW_cs (y := 42) (as := [.int q0, .long p1, .int q2]) (rest := st) rfl rfl rfl rfl rfl ⟨Nat.le_of_ble_eq_true rfl, Nat.le_of_ble_eq_true rfl, Nat.le_of_ble_eq_true rfl⟩
theorem u_40_95 : PW B X 40 95 [v0, v1, v2, v3, v4, v5, v6, v7, v8, v9, v10, some (.long z), v12] (st) h Q ↔ PW B X 40 97 [v0, v1, v2, v3, v4, v5, v6, v7, v8, v9, v10, some (.long z), v12] (.long z :: st) h Q := PW_step rfl rfl rfl rfl
theorem u_40_97 : PW B X 40 97 lv (.long p1 :: .long p0 :: .ref a :: st) h Q ↔ (pm_w st ≤ 8 ∧ pm_io B h a 7 = true ∧ PW B X 43 0 [some (.ref a), some (.long p0), none, some (.long p1), none] [] h (fun r h' => PW B X 40 100 lv (r.toList ++ st) h' Q)) := PW_cv (y := 43) (as := [.long p0, .long p1]) (rest := st) rfl rfl rfl rfl rfl ⟨Nat.le_of_ble_eq_true rfl, Nat.le_of_ble_eq_true rfl, Nat.le_of_ble_eq_true rfl⟩
theorem u_40_100 : PW B X 40 100 [v0, v1, v2, v3, v4, v5, some (.int x), v7, v8, v9, v10, v11, v12] (st) h Q ↔ PW B X 40 103 [v0, v1, v2, v3, v4, pm_c v5, some (.int (x + 1)), v7, v8, v9, v10, v11, v12] (st) h Q := PW_step rfl rfl rfl rfl
theorem u_40_103 : PW B X 40 103 lv (st) h Q ↔ PW B X 40 8 lv (st) h Q := PW_step rfl rfl rfl rfl
theorem u_40_106 : PW B X 40 106 lv ([]) h Q ↔ Q none h := PW_ret rfl rfl
-- 42 RuleSet_turned
theorem u_42_0 : PW B X 42 0 [some (.int x), v1, v2, v3] (st) h Q ↔ PW B X 42 1 [some (.int x), v1, v2, v3] (.int x :: st) h Q := PW_step rfl rfl rfl rfl
theorem u_42_1 : PW B X 42 1 lv (st) h Q ↔ PW B X 42 3 lv (.int 42 :: st) h Q := PW_step rfl rfl rfl rfl
theorem u_42_3 : PW B X 42 3 lv (.int y :: .int x :: st) h Q ↔ (if ¬ x = y then PW B X 42 14 lv (st) h Q else PW B X 42 6 lv (st) h Q) := PW_icmp rfl rfl pm_c_ne
theorem u_42_6 : PW B X 42 6 [v0, v1, v2, some (.int x)] (st) h Q ↔ PW B X 42 7 [v0, v1, v2, some (.int x)] (.int x :: st) h Q := PW_step rfl rfl rfl rfl
theorem u_42_7 : PW B X 42 7 lv (.int x :: st) h Q ↔ PW B X 42 8 lv (.long x.toInt64 :: st) h Q := PW_step rfl rfl rfl rfl
theorem u_42_8 : PW B X 42 8 [v0, some (.long z), v2, v3] (st) h Q ↔ PW B X 42 9 [v0, some (.long z), v2, v3] (.long z :: st) h Q := PW_step rfl rfl rfl rfl
theorem u_42_9 : PW B X 42 9 lv (.long z :: st) h Q ↔ (pm_w st ≤ 8 ∧ PW B X 42 12 lv (.long (if 0 < z then z else -z) :: st) h Q) := PW_math rfl rfl rfl rfl
theorem u_42_12 : PW B X 42 12 lv (.long w :: .long z :: st) h Q ↔ PW B X 42 13 lv (.long (z * w) :: st) h Q := PW_step rfl rfl rfl rfl
theorem u_42_13 : PW B X 42 13 lv ([.long z]) h Q ↔ Q (some (.long z)) h := PW_ret rfl rfl
theorem u_42_14 : PW B X 42 14 [some (.int x), v1, v2, v3] (st) h Q ↔ PW B X 42 15 [some (.int x), v1, v2, v3] (.int x :: st) h Q := PW_step rfl rfl rfl rfl
theorem u_42_15 : PW B X 42 15 lv (st) h Q ↔ PW B X 42 17 lv (.int 45 :: st) h Q := PW_step rfl rfl rfl rfl
theorem u_42_17 : PW B X 42 17 lv (.int y :: .int x :: st) h Q ↔ (if ¬ x = y then PW B X 42 25 lv (st) h Q else PW B X 42 20 lv (st) h Q) := PW_icmp rfl rfl pm_c_ne
theorem u_42_20 : PW B X 42 20 [v0, some (.long z), v2, v3] (st) h Q ↔ PW B X 42 21 [v0, some (.long z), v2, v3] (.long z :: st) h Q := PW_step rfl rfl rfl rfl
theorem u_42_21 : PW B X 42 21 lv (.long z :: st) h Q ↔ PW B X 42 22 lv (.long (-z) :: st) h Q := PW_step rfl rfl rfl rfl
theorem u_42_22 : PW B X 42 22 lv (st) h Q ↔ PW B X 42 26 lv (st) h Q := PW_step rfl rfl rfl rfl
theorem u_42_25 : PW B X 42 25 [v0, some (.long z), v2, v3] (st) h Q ↔ PW B X 42 26 [v0, some (.long z), v2, v3] (.long z :: st) h Q := PW_step rfl rfl rfl rfl
theorem u_42_26 : PW B X 42 26 lv ([.long z]) h Q ↔ Q (some (.long z)) h := PW_ret rfl rfl
-- 60 Extremes_chosen
theorem u_60_0 : PW B X 60 0 [v0, some (.int x)] (st) h Q ↔ PW B X 60 1 [v0, some (.int x)] (.int x :: st) h Q := PW_step rfl rfl rfl rfl
theorem u_60_1 : PW B X 60 1 lv (st) h Q ↔ PW B X 60 2 lv (.int 2 :: st) h Q := PW_step rfl rfl rfl rfl
theorem u_60_2 : PW B X 60 2 lv (.int y :: .int x :: st) h Q ↔ (if ¬ x = y then PW B X 60 35 lv (st) h Q else PW B X 60 5 lv (st) h Q) := PW_icmp rfl rfl pm_c_ne
theorem u_60_5 : PW B X 60 5 [some (.ref a), v1] (st) h Q ↔ PW B X 60 6 [some (.ref a), v1] (.ref a :: st) h Q := PW_step rfl rfl rfl rfl
theorem u_60_5n : PW B X 60 5 [some .null, v1] (st) h Q ↔ PW B X 60 6 [some .null, v1] (.null :: st) h Q := PW_step rfl rfl rfl rfl
theorem u_60_6 : PW B X 60 6 lv (.ref a :: st) h Q ↔ pm_O (pm_gf (pm_at B h a) 6 0) (fun v => PW B X 60 9 lv (v :: st) h Q) := PW_getf rfl rfl
theorem u_60_9 : PW B X 60 9 [some (.ref a), v1] (st) h Q ↔ PW B X 60 10 [some (.ref a), v1] (.ref a :: st) h Q := PW_step rfl rfl rfl rfl
theorem u_60_9n : PW B X 60 9 [some .null, v1] (st) h Q ↔ PW B X 60 10 [some .null, v1] (.null :: st) h Q := PW_step rfl rfl rfl rfl
theorem u_60_10 : PW B X 60 10 lv (.ref a :: st) h Q ↔ pm_O (pm_gf (pm_at B h a) 6 3) (fun v => PW B X 60 13 lv (v :: st) h Q) := PW_getf rfl rfl
theorem u_60_13 : PW B X 60 13 [some (.ref a), v1] (st) h Q ↔ PW B X 60 14 [some (.ref a), v1] (.ref a :: st) h Q := PW_step rfl rfl rfl rfl
theorem u_60_13n : PW B X 60 13 [some .null, v1] (st) h Q ↔ PW B X 60 14 [some .null, v1] (.null :: st) h Q := PW_step rfl rfl rfl rfl
theorem u_60_14 : PW B X 60 14 lv (.ref a :: st) h Q ↔ pm_O (pm_gf (pm_at B h a) 6 4) (fun v => PW B X 60 17 lv (v :: st) h Q) := PW_getf rfl rfl
theorem u_60_17 : PW B X 60 17 lv (.ref r1 :: .ref r0 :: .ref a :: st) h Q ↔ (pm_w st ≤ 8 ∧ pm_io B h a 4 = true ∧ PW B X 57 0 [some (.ref a), some (.ref r0), some (.ref r1)] [] h (fun r h' => PW B X 60 20 lv (r.toList ++ st) h' Q)) := PW_cv (y := 57) (as := [.ref r0, .ref r1]) (rest := st) rfl rfl rfl rfl rfl ⟨Nat.le_of_ble_eq_true rfl, Nat.le_of_ble_eq_true rfl, Nat.le_of_ble_eq_true rfl⟩
theorem u_60_20 : PW B X 60 20 lv (.int x :: st) h Q ↔ (if x ≤ 0 then PW B X 60 30 lv (st) h Q else PW B X 60 23 lv (st) h Q) := PW_if rfl rfl pm_c_le
theorem u_60_23 : PW B X 60 23 [some (.ref a), v1] (st) h Q ↔ PW B X 60 24 [some (.ref a), v1] (.ref a :: st) h Q := PW_step rfl rfl rfl rfl
theorem u_60_23n : PW B X 60 23 [some .null, v1] (st) h Q ↔ PW B X 60 24 [some .null, v1] (.null :: st) h Q := PW_step rfl rfl rfl rfl
theorem u_60_24 : PW B X 60 24 lv (.ref a :: st) h Q ↔ pm_O (pm_gf (pm_at B h a) 6 3) (fun v => PW B X 60 27 lv (v :: st) h Q) := PW_getf rfl rfl
theorem u_60_27 : PW B X 60 27 lv (st) h Q ↔ PW B X 60 34 lv (st) h Q := PW_step rfl rfl rfl rfl
theorem u_60_30 : PW B X 60 30 [some (.ref a), v1] (st) h Q ↔ PW B X 60 31 [some (.ref a), v1] (.ref a :: st) h Q := PW_step rfl rfl rfl rfl
theorem u_60_30n : PW B X 60 30 [some .null, v1] (st) h Q ↔ PW B X 60 31 [some .null, v1] (.null :: st) h Q := PW_step rfl rfl rfl rfl
theorem u_60_31 : PW B X 60 31 lv (.ref a :: st) h Q ↔ pm_O (pm_gf (pm_at B h a) 6 4) (fun v => PW B X 60 34 lv (v :: st) h Q) := PW_getf rfl rfl
theorem u_60_34 : PW B X 60 34 lv ([.ref a]) h Q ↔ Q (some (.ref a)) h := PW_ret rfl rfl
theorem u_60_34n : PW B X 60 34 lv ([.null]) h Q ↔ Q (some .null) h := PW_ret rfl rfl
theorem u_60_35 : PW B X 60 35 [v0, some (.int x)] (st) h Q ↔ PW B X 60 36 [v0, some (.int x)] (.int x :: st) h Q := PW_step rfl rfl rfl rfl
theorem u_60_36 : PW B X 60 36 lv (.int x :: st) h Q ↔ (if ¬ x = 0 then PW B X 60 46 lv (st) h Q else PW B X 60 39 lv (st) h Q) := PW_if rfl rfl pm_c_ne
theorem u_60_39 : PW B X 60 39 [some (.ref a), v1] (st) h Q ↔ PW B X 60 40 [some (.ref a), v1] (.ref a :: st) h Q := PW_step rfl rfl rfl rfl
theorem u_60_39n : PW B X 60 39 [some .null, v1] (st) h Q ↔ PW B X 60 40 [some .null, v1] (.null :: st) h Q := PW_step rfl rfl rfl rfl
theorem u_60_40 : PW B X 60 40 lv (.ref a :: st) h Q ↔ pm_O (pm_gf (pm_at B h a) 6 3) (fun v => PW B X 60 43 lv (v :: st) h Q) := PW_getf rfl rfl
theorem u_60_43 : PW B X 60 43 lv (st) h Q ↔ PW B X 60 50 lv (st) h Q := PW_step rfl rfl rfl rfl
theorem u_60_46 : PW B X 60 46 [some (.ref a), v1] (st) h Q ↔ PW B X 60 47 [some (.ref a), v1] (.ref a :: st) h Q := PW_step rfl rfl rfl rfl
theorem u_60_46n : PW B X 60 46 [some .null, v1] (st) h Q ↔ PW B X 60 47 [some .null, v1] (.null :: st) h Q := PW_step rfl rfl rfl rfl
theorem u_60_47 : PW B X 60 47 lv (.ref a :: st) h Q ↔ pm_O (pm_gf (pm_at B h a) 6 4) (fun v => PW B X 60 50 lv (v :: st) h Q) := PW_getf rfl rfl
theorem u_60_50 : PW B X 60 50 lv ([.ref a]) h Q ↔ Q (some (.ref a)) h := PW_ret rfl rfl
theorem u_60_50n : PW B X 60 50 lv ([.null]) h Q ↔ Q (some .null) h := PW_ret rfl rfl
end

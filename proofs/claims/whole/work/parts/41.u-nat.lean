/-! RULES OF 41.u-nat, an instruction each, written by ugen.py: do not edit. -/
section
variable {B : Nat} {X : pm_X} {lv : pm_L} {st : List Value} {h : pm_H} {Q : Option Value → pm_H → Prop} {v : Value} {x y : Int32} {z w : Int64} {a b : Nat}
variable {v0 v1 v2 v3 v4 v5 v6 v7 v8 v9 v10 v11 v12 v13 v14 v15 : Option Value} {q0 q1 q2 q3 q4 q5 : Int32} {p0 p1 p2 p3 p4 p5 : Int64} {r0 r1 r2 r3 r4 r5 : Nat}
-- 5 Natural_init
theorem u_5_0 : PW B X 5 0 [some (.ref a)] (st) h Q ↔ PW B X 5 1 [some (.ref a)] (.ref a :: st) h Q := PW_step rfl rfl rfl rfl
theorem u_5_0n : PW B X 5 0 [some .null] (st) h Q ↔ PW B X 5 1 [some .null] (.null :: st) h Q := PW_step rfl rfl rfl rfl
theorem u_5_1 : PW B X 5 1 lv (.ref a :: st) h Q ↔ (pm_w st ≤ 8 ∧ PW B X 5 4 lv (st) h Q) := PW_obj rfl rfl rfl
theorem u_5_4 : PW B X 5 4 [some (.ref a)] (st) h Q ↔ PW B X 5 5 [some (.ref a)] (.ref a :: st) h Q := PW_step rfl rfl rfl rfl
theorem u_5_4n : PW B X 5 4 [some .null] (st) h Q ↔ PW B X 5 5 [some .null] (.null :: st) h Q := PW_step rfl rfl rfl rfl
theorem u_5_5 : PW B X 5 5 lv (st) h Q ↔ PW B X 5 7 lv (.int 12 :: st) h Q := PW_step rfl rfl rfl rfl
theorem u_5_7 : PW B X 5 7 lv (.int 12 :: st) h Q ↔ PW B X 5 9 lv (.ref (B + h.length) :: st) (h ++ [.inl (1, 12, .inr (.inl (fun _ => 0)))]) Q := PW_step rfl rfl rfl rfl
theorem u_5_9 : PW B X 5 9 lv (v :: .ref a :: st) h Q ↔ pm_O (pm_pf (pm_at B h a) 5 0 v) (fun e => PW B X 5 12 lv (st) (pm_set B h a e) Q) := PW_putf rfl rfl
theorem u_5_12 : PW B X 5 12 lv ([]) h Q ↔ Q none h := PW_ret rfl rfl
-- 9 Natural_put
theorem u_9_0 : PW B X 9 0 [v0, some (.long z), v2, v3, v4, v5] (st) h Q ↔ PW B X 9 1 [v0, some (.long z), v2, v3, v4, v5] (.long z :: st) h Q := PW_step rfl rfl rfl rfl
theorem u_9_1 : PW B X 9 1 [v0, v1, v2, v3, v4, v5] (.long z :: st) h Q ↔ PW B X 9 2 [v0, v1, pm_c v2, some (.long z), none, v5] (st) h Q := PW_step rfl rfl rfl rfl
theorem u_9_2 : PW B X 9 2 [some (.ref a), v1, v2, v3, v4, v5] (st) h Q ↔ PW B X 9 3 [some (.ref a), v1, v2, v3, v4, v5] (.ref a :: st) h Q := PW_step rfl rfl rfl rfl
theorem u_9_2n : PW B X 9 2 [some .null, v1, v2, v3, v4, v5] (st) h Q ↔ PW B X 9 3 [some .null, v1, v2, v3, v4, v5] (.null :: st) h Q := PW_step rfl rfl rfl rfl
theorem u_9_3 : PW B X 9 3 lv (st) h Q ↔ PW B X 9 4 lv (.int 0 :: st) h Q := PW_step rfl rfl rfl rfl
theorem u_9_4 : PW B X 9 4 lv (v :: .ref a :: st) h Q ↔ pm_O (pm_pf (pm_at B h a) 5 1 v) (fun e => PW B X 9 7 lv (st) (pm_set B h a e) Q) := PW_putf rfl rfl
theorem u_9_7 : PW B X 9 7 lv (st) h Q ↔ PW B X 9 8 lv (.int 0 :: st) h Q := PW_step rfl rfl rfl rfl
theorem u_9_8 : PW B X 9 8 [v0, v1, v2, v3, v4, v5] (.int x :: st) h Q ↔ PW B X 9 10 [v0, v1, v2, v3, pm_c v4, some (.int x)] (st) h Q := PW_step rfl rfl rfl rfl
theorem u_9_10 : PW B X 9 10 [v0, v1, v2, v3, v4, some (.int x)] (st) h Q ↔ PW B X 9 12 [v0, v1, v2, v3, v4, some (.int x)] (.int x :: st) h Q := PW_step rfl rfl rfl rfl
theorem u_9_12 : PW B X 9 12 lv (st) h Q ↔ PW B X 9 14 lv (.int 12 :: st) h Q := PW_step rfl rfl rfl rfl
theorem u_9_14 : PW B X 9 14 lv (.int y :: .int x :: st) h Q ↔ (if y ≤ x then PW B X 9 44 lv (st) h Q else PW B X 9 17 lv (st) h Q) := PW_icmp rfl rfl pm_c_ge
theorem u_9_17 : PW B X 9 17 [v0, v1, v2, some (.long z), v4, v5] (st) h Q ↔ PW B X 9 18 [v0, v1, v2, some (.long z), v4, v5] (.long z :: st) h Q := PW_step rfl rfl rfl rfl
theorem u_9_18 : PW B X 9 18 lv (st) h Q ↔ PW B X 9 19 lv (.long 0 :: st) h Q := PW_step rfl rfl rfl rfl
theorem u_9_19 : PW B X 9 19 lv (.long w :: .long z :: st) h Q ↔ PW B X 9 20 lv (.int (lg_cmp z w) :: st) h Q := PW_step rfl rfl rfl rfl
theorem u_9_20 : PW B X 9 20 lv (.int x :: st) h Q ↔ (if x ≤ 0 then PW B X 9 44 lv (st) h Q else PW B X 9 23 lv (st) h Q) := PW_if rfl rfl pm_c_le
theorem u_9_23 : PW B X 9 23 [some (.ref a), v1, v2, v3, v4, v5] (st) h Q ↔ PW B X 9 24 [some (.ref a), v1, v2, v3, v4, v5] (.ref a :: st) h Q := PW_step rfl rfl rfl rfl
theorem u_9_23n : PW B X 9 23 [some .null, v1, v2, v3, v4, v5] (st) h Q ↔ PW B X 9 24 [some .null, v1, v2, v3, v4, v5] (.null :: st) h Q := PW_step rfl rfl rfl rfl
theorem u_9_24 : PW B X 9 24 [v0, v1, v2, some (.long z), v4, v5] (st) h Q ↔ PW B X 9 25 [v0, v1, v2, some (.long z), v4, v5] (.long z :: st) h Q := PW_step rfl rfl rfl rfl
theorem u_9_25 : PW B X 9 25 lv (st) h Q ↔ PW B X 9 28 lv (.long 1000000000 :: st) h Q := PW_step rfl rfl rfl rfl
theorem u_9_28 : PW B X 9 28 lv (.long w :: .long z :: st) h Q ↔ (¬ w = 0 ∧ PW B X 9 29 lv (.long (z - z / w * w) :: st) h Q) := PW_lrem rfl
theorem u_9_29 : PW B X 9 29 lv (.long p0 :: .ref a :: st) h Q ↔ (pm_w st ≤ 8 ∧ pm_io B h a 5 = true ∧ PW B X 10 0 [some (.ref a), some (.long p0), none] [] h (fun r h' => PW B X 9 32 lv (r.toList ++ st) h' Q)) := PW_cv (y := 10) (as := [.long p0]) (rest := st) rfl rfl rfl rfl rfl ⟨Nat.le_of_ble_eq_true rfl, Nat.le_of_ble_eq_true rfl, Nat.le_of_ble_eq_true rfl⟩
theorem u_9_32 : PW B X 9 32 [v0, v1, v2, some (.long z), v4, v5] (st) h Q ↔ PW B X 9 33 [v0, v1, v2, some (.long z), v4, v5] (.long z :: st) h Q := PW_step rfl rfl rfl rfl
theorem u_9_33 : PW B X 9 33 lv (st) h Q ↔ PW B X 9 36 lv (.long 1000000000 :: st) h Q := PW_step rfl rfl rfl rfl
theorem u_9_36 : PW B X 9 36 lv (.long w :: .long z :: st) h Q ↔ (¬ w = 0 ∧ PW B X 9 37 lv (.long (z / w) :: st) h Q) := PW_ldiv rfl
theorem u_9_37 : PW B X 9 37 [v0, v1, v2, v3, v4, v5] (.long z :: st) h Q ↔ PW B X 9 38 [v0, v1, pm_c v2, some (.long z), none, v5] (st) h Q := PW_step rfl rfl rfl rfl
theorem u_9_38 : PW B X 9 38 [v0, v1, v2, v3, v4, some (.int x)] (st) h Q ↔ PW B X 9 41 [v0, v1, v2, v3, pm_c v4, some (.int (x + 1))] (st) h Q := PW_step rfl rfl rfl rfl
theorem u_9_41 : PW B X 9 41 lv (st) h Q ↔ PW B X 9 10 lv (st) h Q := PW_step rfl rfl rfl rfl
theorem u_9_44 : PW B X 9 44 lv ([]) h Q ↔ Q none h := PW_ret rfl rfl
-- 10 Natural_append
theorem u_10_0 : PW B X 10 0 [some (.ref a), v1, v2] (st) h Q ↔ PW B X 10 1 [some (.ref a), v1, v2] (.ref a :: st) h Q := PW_step rfl rfl rfl rfl
theorem u_10_0n : PW B X 10 0 [some .null, v1, v2] (st) h Q ↔ PW B X 10 1 [some .null, v1, v2] (.null :: st) h Q := PW_step rfl rfl rfl rfl
theorem u_10_1 : PW B X 10 1 lv (.ref a :: st) h Q ↔ pm_O (pm_gf (pm_at B h a) 5 1) (fun v => PW B X 10 4 lv (v :: st) h Q) := PW_getf rfl rfl
theorem u_10_4 : PW B X 10 4 lv (st) h Q ↔ PW B X 10 6 lv (.int 12 :: st) h Q := PW_step rfl rfl rfl rfl
theorem u_10_6 : PW B X 10 6 lv (.int y :: .int x :: st) h Q ↔ (if y ≤ x then PW B X 10 29 lv (st) h Q else PW B X 10 9 lv (st) h Q) := PW_icmp rfl rfl pm_c_ge
theorem u_10_9 : PW B X 10 9 [some (.ref a), v1, v2] (st) h Q ↔ PW B X 10 10 [some (.ref a), v1, v2] (.ref a :: st) h Q := PW_step rfl rfl rfl rfl
theorem u_10_9n : PW B X 10 9 [some .null, v1, v2] (st) h Q ↔ PW B X 10 10 [some .null, v1, v2] (.null :: st) h Q := PW_step rfl rfl rfl rfl
theorem u_10_10 : PW B X 10 10 lv (.ref a :: st) h Q ↔ pm_O (pm_gf (pm_at B h a) 5 0) (fun v => PW B X 10 13 lv (v :: st) h Q) := PW_getf rfl rfl
theorem u_10_13 : PW B X 10 13 [some (.ref a), v1, v2] (st) h Q ↔ PW B X 10 14 [some (.ref a), v1, v2] (.ref a :: st) h Q := PW_step rfl rfl rfl rfl
theorem u_10_13n : PW B X 10 13 [some .null, v1, v2] (st) h Q ↔ PW B X 10 14 [some .null, v1, v2] (.null :: st) h Q := PW_step rfl rfl rfl rfl
theorem u_10_14 : PW B X 10 14 lv (.ref a :: st) h Q ↔ pm_O (pm_gf (pm_at B h a) 5 1) (fun v => PW B X 10 17 lv (v :: st) h Q) := PW_getf rfl rfl
theorem u_10_17 : PW B X 10 17 [v0, some (.long z), v2] (st) h Q ↔ PW B X 10 18 [v0, some (.long z), v2] (.long z :: st) h Q := PW_step rfl rfl rfl rfl
theorem u_10_18 : PW B X 10 18 lv (.long z :: .int x :: .ref a :: st) h Q ↔ pm_O (pm_stl (pm_at B h a) x z) (fun e => PW B X 10 19 lv (st) (pm_set B h a e) Q) := PW_last rfl
theorem u_10_19 : PW B X 10 19 [some (.ref a), v1, v2] (st) h Q ↔ PW B X 10 20 [some (.ref a), v1, v2] (.ref a :: st) h Q := PW_step rfl rfl rfl rfl
theorem u_10_19n : PW B X 10 19 [some .null, v1, v2] (st) h Q ↔ PW B X 10 20 [some .null, v1, v2] (.null :: st) h Q := PW_step rfl rfl rfl rfl
theorem u_10_20 : PW B X 10 20 lv (.ref a :: st) h Q ↔ PW B X 10 21 lv (.ref a :: .ref a :: st) h Q := PW_step rfl rfl rfl rfl
theorem u_10_20i : PW B X 10 20 lv (.int x :: st) h Q ↔ PW B X 10 21 lv (.int x :: .int x :: st) h Q := PW_step rfl rfl rfl rfl
theorem u_10_21 : PW B X 10 21 lv (.ref a :: st) h Q ↔ pm_O (pm_gf (pm_at B h a) 5 1) (fun v => PW B X 10 24 lv (v :: st) h Q) := PW_getf rfl rfl
theorem u_10_24 : PW B X 10 24 lv (st) h Q ↔ PW B X 10 25 lv (.int 1 :: st) h Q := PW_step rfl rfl rfl rfl
theorem u_10_25 : PW B X 10 25 lv (.int y :: .int x :: st) h Q ↔ PW B X 10 26 lv (.int (x + y) :: st) h Q := PW_step rfl rfl rfl rfl
theorem u_10_26 : PW B X 10 26 lv (v :: .ref a :: st) h Q ↔ pm_O (pm_pf (pm_at B h a) 5 1 v) (fun e => PW B X 10 29 lv (st) (pm_set B h a e) Q) := PW_putf rfl rfl
theorem u_10_29 : PW B X 10 29 lv ([]) h Q ↔ Q none h := PW_ret rfl rfl
-- 39 Long_signum
theorem u_39_0 : PW B X 39 0 [some (.long z), v1] (st) h Q ↔ PW B X 39 1 [some (.long z), v1] (.long z :: st) h Q := PW_step rfl rfl rfl rfl
theorem u_39_1 : PW B X 39 1 lv (st) h Q ↔ PW B X 39 3 lv (.int 63 :: st) h Q := PW_step rfl rfl rfl rfl
theorem u_39_3 : PW B X 39 3 lv (.int y :: .long z :: st) h Q ↔ PW B X 39 4 lv (.long (z >>> (y.toInt64 &&& 63)) :: st) h Q := PW_step rfl rfl rfl rfl
theorem u_39_4 : PW B X 39 4 [some (.long z), v1] (st) h Q ↔ PW B X 39 5 [some (.long z), v1] (.long z :: st) h Q := PW_step rfl rfl rfl rfl
theorem u_39_5 : PW B X 39 5 lv (.long z :: st) h Q ↔ PW B X 39 6 lv (.long (-z) :: st) h Q := PW_step rfl rfl rfl rfl
theorem u_39_6 : PW B X 39 6 lv (st) h Q ↔ PW B X 39 8 lv (.int 63 :: st) h Q := PW_step rfl rfl rfl rfl
theorem u_39_8 : PW B X 39 8 lv (.int y :: .long z :: st) h Q ↔ PW B X 39 9 lv (.long (z.toUInt64 >>> (y.toInt64.toUInt64 &&& Int64.toUInt64 63)).toInt64 :: st) h Q := PW_step rfl rfl rfl rfl
theorem u_39_9 : PW B X 39 9 lv (.long w :: .long z :: st) h Q ↔ PW B X 39 10 lv (.long (z ||| w) :: st) h Q := PW_step rfl rfl rfl rfl
theorem u_39_10 : PW B X 39 10 lv (.long z :: st) h Q ↔ PW B X 39 11 lv (.int z.toInt32 :: st) h Q := PW_step rfl rfl rfl rfl
theorem u_39_11 : PW B X 39 11 lv ([.int x]) h Q ↔ Q (some (.int x)) h := PW_ret rfl rfl
-- 44 Natural_multiply
theorem u_44_0 : PW B X 44 0 lv (st) h Q ↔ PW B X 44 1 lv (.long 0 :: st) h Q := PW_step rfl rfl rfl rfl
theorem u_44_1 : PW B X 44 1 [v0, v1, v2, v3, v4, v5, v6, v7] (.long z :: st) h Q ↔ PW B X 44 2 [v0, v1, pm_c v2, some (.long z), none, v5, v6, v7] (st) h Q := PW_step rfl rfl rfl rfl
theorem u_44_2 : PW B X 44 2 lv (st) h Q ↔ PW B X 44 3 lv (.int 0 :: st) h Q := PW_step rfl rfl rfl rfl
theorem u_44_3 : PW B X 44 3 [v0, v1, v2, v3, v4, v5, v6, v7] (.int x :: st) h Q ↔ PW B X 44 5 [v0, v1, v2, v3, pm_c v4, some (.int x), v6, v7] (st) h Q := PW_step rfl rfl rfl rfl
theorem u_44_5 : PW B X 44 5 [v0, v1, v2, v3, v4, some (.int x), v6, v7] (st) h Q ↔ PW B X 44 7 [v0, v1, v2, v3, v4, some (.int x), v6, v7] (.int x :: st) h Q := PW_step rfl rfl rfl rfl
theorem u_44_7 : PW B X 44 7 [some (.ref a), v1, v2, v3, v4, v5, v6, v7] (st) h Q ↔ PW B X 44 8 [some (.ref a), v1, v2, v3, v4, v5, v6, v7] (.ref a :: st) h Q := PW_step rfl rfl rfl rfl
theorem u_44_7n : PW B X 44 7 [some .null, v1, v2, v3, v4, v5, v6, v7] (st) h Q ↔ PW B X 44 8 [some .null, v1, v2, v3, v4, v5, v6, v7] (.null :: st) h Q := PW_step rfl rfl rfl rfl
theorem u_44_8 : PW B X 44 8 lv (.ref a :: st) h Q ↔ pm_O (pm_gf (pm_at B h a) 5 1) (fun v => PW B X 44 11 lv (v :: st) h Q) := PW_getf rfl rfl
theorem u_44_11 : PW B X 44 11 lv (.int y :: .int x :: st) h Q ↔ (if y ≤ x then PW B X 44 53 lv (st) h Q else PW B X 44 14 lv (st) h Q) := PW_icmp rfl rfl pm_c_ge
theorem u_44_14 : PW B X 44 14 [some (.ref a), v1, v2, v3, v4, v5, v6, v7] (st) h Q ↔ PW B X 44 15 [some (.ref a), v1, v2, v3, v4, v5, v6, v7] (.ref a :: st) h Q := PW_step rfl rfl rfl rfl
theorem u_44_14n : PW B X 44 14 [some .null, v1, v2, v3, v4, v5, v6, v7] (st) h Q ↔ PW B X 44 15 [some .null, v1, v2, v3, v4, v5, v6, v7] (.null :: st) h Q := PW_step rfl rfl rfl rfl
theorem u_44_15 : PW B X 44 15 lv (.ref a :: st) h Q ↔ pm_O (pm_gf (pm_at B h a) 5 0) (fun v => PW B X 44 18 lv (v :: st) h Q) := PW_getf rfl rfl
theorem u_44_18 : PW B X 44 18 [v0, v1, v2, v3, v4, some (.int x), v6, v7] (st) h Q ↔ PW B X 44 20 [v0, v1, v2, v3, v4, some (.int x), v6, v7] (.int x :: st) h Q := PW_step rfl rfl rfl rfl
theorem u_44_20 : PW B X 44 20 lv (.int x :: .ref a :: st) h Q ↔ pm_O (pm_ldl (pm_at B h a) x) (fun v => PW B X 44 21 lv (v :: st) h Q) := PW_lald rfl
theorem u_44_21 : PW B X 44 21 [v0, some (.long z), v2, v3, v4, v5, v6, v7] (st) h Q ↔ PW B X 44 22 [v0, some (.long z), v2, v3, v4, v5, v6, v7] (.long z :: st) h Q := PW_step rfl rfl rfl rfl
theorem u_44_22 : PW B X 44 22 lv (.long w :: .long z :: st) h Q ↔ PW B X 44 23 lv (.long (z * w) :: st) h Q := PW_step rfl rfl rfl rfl
theorem u_44_23 : PW B X 44 23 [v0, v1, v2, some (.long z), v4, v5, v6, v7] (st) h Q ↔ PW B X 44 24 [v0, v1, v2, some (.long z), v4, v5, v6, v7] (.long z :: st) h Q := PW_step rfl rfl rfl rfl
theorem u_44_24 : PW B X 44 24 lv (.long w :: .long z :: st) h Q ↔ PW B X 44 25 lv (.long (z + w) :: st) h Q := PW_step rfl rfl rfl rfl
theorem u_44_25 : PW B X 44 25 [v0, v1, v2, v3, v4, v5, v6, v7] (.long z :: st) h Q ↔ PW B X 44 27 [v0, v1, v2, v3, v4, pm_c v5, some (.long z), none] (st) h Q := PW_step rfl rfl rfl rfl
theorem u_44_27 : PW B X 44 27 [some (.ref a), v1, v2, v3, v4, v5, v6, v7] (st) h Q ↔ PW B X 44 28 [some (.ref a), v1, v2, v3, v4, v5, v6, v7] (.ref a :: st) h Q := PW_step rfl rfl rfl rfl
theorem u_44_27n : PW B X 44 27 [some .null, v1, v2, v3, v4, v5, v6, v7] (st) h Q ↔ PW B X 44 28 [some .null, v1, v2, v3, v4, v5, v6, v7] (.null :: st) h Q := PW_step rfl rfl rfl rfl
theorem u_44_28 : PW B X 44 28 lv (.ref a :: st) h Q ↔ pm_O (pm_gf (pm_at B h a) 5 0) (fun v => PW B X 44 31 lv (v :: st) h Q) := PW_getf rfl rfl
theorem u_44_31 : PW B X 44 31 [v0, v1, v2, v3, v4, some (.int x), v6, v7] (st) h Q ↔ PW B X 44 33 [v0, v1, v2, v3, v4, some (.int x), v6, v7] (.int x :: st) h Q := PW_step rfl rfl rfl rfl
theorem u_44_33 : PW B X 44 33 [v0, v1, v2, v3, v4, v5, some (.long z), v7] (st) h Q ↔ PW B X 44 35 [v0, v1, v2, v3, v4, v5, some (.long z), v7] (.long z :: st) h Q := PW_step rfl rfl rfl rfl
theorem u_44_35 : PW B X 44 35 lv (st) h Q ↔ PW B X 44 38 lv (.long 1000000000 :: st) h Q := PW_step rfl rfl rfl rfl
theorem u_44_38 : PW B X 44 38 lv (.long w :: .long z :: st) h Q ↔ (¬ w = 0 ∧ PW B X 44 39 lv (.long (z - z / w * w) :: st) h Q) := PW_lrem rfl
theorem u_44_39 : PW B X 44 39 lv (.long z :: .int x :: .ref a :: st) h Q ↔ pm_O (pm_stl (pm_at B h a) x z) (fun e => PW B X 44 40 lv (st) (pm_set B h a e) Q) := PW_last rfl
theorem u_44_40 : PW B X 44 40 [v0, v1, v2, v3, v4, v5, some (.long z), v7] (st) h Q ↔ PW B X 44 42 [v0, v1, v2, v3, v4, v5, some (.long z), v7] (.long z :: st) h Q := PW_step rfl rfl rfl rfl
theorem u_44_42 : PW B X 44 42 lv (st) h Q ↔ PW B X 44 45 lv (.long 1000000000 :: st) h Q := PW_step rfl rfl rfl rfl
theorem u_44_45 : PW B X 44 45 lv (.long w :: .long z :: st) h Q ↔ (¬ w = 0 ∧ PW B X 44 46 lv (.long (z / w) :: st) h Q) := PW_ldiv rfl
theorem u_44_46 : PW B X 44 46 [v0, v1, v2, v3, v4, v5, v6, v7] (.long z :: st) h Q ↔ PW B X 44 47 [v0, v1, pm_c v2, some (.long z), none, v5, v6, v7] (st) h Q := PW_step rfl rfl rfl rfl
theorem u_44_47 : PW B X 44 47 [v0, v1, v2, v3, v4, some (.int x), v6, v7] (st) h Q ↔ PW B X 44 50 [v0, v1, v2, v3, pm_c v4, some (.int (x + 1)), v6, v7] (st) h Q := PW_step rfl rfl rfl rfl
theorem u_44_50 : PW B X 44 50 lv (st) h Q ↔ PW B X 44 5 lv (st) h Q := PW_step rfl rfl rfl rfl
theorem u_44_53 : PW B X 44 53 [v0, v1, v2, some (.long z), v4, v5, v6, v7] (st) h Q ↔ PW B X 44 54 [v0, v1, v2, some (.long z), v4, v5, v6, v7] (.long z :: st) h Q := PW_step rfl rfl rfl rfl
theorem u_44_54 : PW B X 44 54 lv (st) h Q ↔ PW B X 44 55 lv (.long 0 :: st) h Q := PW_step rfl rfl rfl rfl
theorem u_44_55 : PW B X 44 55 lv (.long w :: .long z :: st) h Q ↔ PW B X 44 56 lv (.int (lg_cmp z w) :: st) h Q := PW_step rfl rfl rfl rfl
theorem u_44_56 : PW B X 44 56 lv (.int x :: st) h Q ↔ (if x ≤ 0 then PW B X 44 64 lv (st) h Q else PW B X 44 59 lv (st) h Q) := PW_if rfl rfl pm_c_le
theorem u_44_59 : PW B X 44 59 [some (.ref a), v1, v2, v3, v4, v5, v6, v7] (st) h Q ↔ PW B X 44 60 [some (.ref a), v1, v2, v3, v4, v5, v6, v7] (.ref a :: st) h Q := PW_step rfl rfl rfl rfl
theorem u_44_59n : PW B X 44 59 [some .null, v1, v2, v3, v4, v5, v6, v7] (st) h Q ↔ PW B X 44 60 [some .null, v1, v2, v3, v4, v5, v6, v7] (.null :: st) h Q := PW_step rfl rfl rfl rfl
theorem u_44_60 : PW B X 44 60 [v0, v1, v2, some (.long z), v4, v5, v6, v7] (st) h Q ↔ PW B X 44 61 [v0, v1, v2, some (.long z), v4, v5, v6, v7] (.long z :: st) h Q := PW_step rfl rfl rfl rfl
theorem u_44_61 : PW B X 44 61 lv (.long p0 :: .ref a :: st) h Q ↔ (pm_w st ≤ 8 ∧ pm_io B h a 5 = true ∧ PW B X 10 0 [some (.ref a), some (.long p0), none] [] h (fun r h' => PW B X 44 64 lv (r.toList ++ st) h' Q)) := PW_cv (y := 10) (as := [.long p0]) (rest := st) rfl rfl rfl rfl rfl ⟨Nat.le_of_ble_eq_true rfl, Nat.le_of_ble_eq_true rfl, Nat.le_of_ble_eq_true rfl⟩
theorem u_44_64 : PW B X 44 64 [some (.ref a), v1, v2, v3, v4, v5, v6, v7] (st) h Q ↔ PW B X 44 65 [some (.ref a), v1, v2, v3, v4, v5, v6, v7] (.ref a :: st) h Q := PW_step rfl rfl rfl rfl
theorem u_44_64n : PW B X 44 64 [some .null, v1, v2, v3, v4, v5, v6, v7] (st) h Q ↔ PW B X 44 65 [some .null, v1, v2, v3, v4, v5, v6, v7] (.null :: st) h Q := PW_step rfl rfl rfl rfl
theorem u_44_65 : PW B X 44 65 lv (.ref a :: st) h Q ↔ (pm_w st ≤ 8 ∧ pm_io B h a 5 = true ∧ PW B X 45 0 [some (.ref a), none] [] h (fun r h' => PW B X 44 68 lv (r.toList ++ st) h' Q)) := PW_cv (y := 45) (as := []) (rest := st) rfl rfl rfl rfl rfl ⟨Nat.le_of_ble_eq_true rfl, Nat.le_of_ble_eq_true rfl, Nat.le_of_ble_eq_true rfl⟩
theorem u_44_68 : PW B X 44 68 lv ([]) h Q ↔ Q none h := PW_ret rfl rfl
-- 45 Natural_trim
theorem u_45_0 : PW B X 45 0 [some (.ref a), v1] (st) h Q ↔ PW B X 45 1 [some (.ref a), v1] (.ref a :: st) h Q := PW_step rfl rfl rfl rfl
theorem u_45_0n : PW B X 45 0 [some .null, v1] (st) h Q ↔ PW B X 45 1 [some .null, v1] (.null :: st) h Q := PW_step rfl rfl rfl rfl
theorem u_45_1 : PW B X 45 1 lv (.ref a :: st) h Q ↔ pm_O (pm_gf (pm_at B h a) 5 1) (fun v => PW B X 45 4 lv (v :: st) h Q) := PW_getf rfl rfl
theorem u_45_4 : PW B X 45 4 lv (st) h Q ↔ PW B X 45 5 lv (.int 1 :: st) h Q := PW_step rfl rfl rfl rfl
theorem u_45_5 : PW B X 45 5 lv (.int y :: .int x :: st) h Q ↔ PW B X 45 6 lv (.int (x - y) :: st) h Q := PW_step rfl rfl rfl rfl
theorem u_45_6 : PW B X 45 6 [v0, v1] (.int x :: st) h Q ↔ PW B X 45 7 [pm_c v0, some (.int x)] (st) h Q := PW_step rfl rfl rfl rfl
theorem u_45_7 : PW B X 45 7 [v0, some (.int x)] (st) h Q ↔ PW B X 45 8 [v0, some (.int x)] (.int x :: st) h Q := PW_step rfl rfl rfl rfl
theorem u_45_8 : PW B X 45 8 lv (.int x :: st) h Q ↔ (if x < 0 then PW B X 45 33 lv (st) h Q else PW B X 45 11 lv (st) h Q) := PW_if rfl rfl pm_c_lt
theorem u_45_11 : PW B X 45 11 [some (.ref a), v1] (st) h Q ↔ PW B X 45 12 [some (.ref a), v1] (.ref a :: st) h Q := PW_step rfl rfl rfl rfl
theorem u_45_11n : PW B X 45 11 [some .null, v1] (st) h Q ↔ PW B X 45 12 [some .null, v1] (.null :: st) h Q := PW_step rfl rfl rfl rfl
theorem u_45_12 : PW B X 45 12 lv (.ref a :: st) h Q ↔ pm_O (pm_gf (pm_at B h a) 5 0) (fun v => PW B X 45 15 lv (v :: st) h Q) := PW_getf rfl rfl
theorem u_45_15 : PW B X 45 15 [v0, some (.int x)] (st) h Q ↔ PW B X 45 16 [v0, some (.int x)] (.int x :: st) h Q := PW_step rfl rfl rfl rfl
theorem u_45_16 : PW B X 45 16 lv (.int x :: .ref a :: st) h Q ↔ pm_O (pm_ldl (pm_at B h a) x) (fun v => PW B X 45 17 lv (v :: st) h Q) := PW_lald rfl
theorem u_45_17 : PW B X 45 17 lv (st) h Q ↔ PW B X 45 18 lv (.long 0 :: st) h Q := PW_step rfl rfl rfl rfl
theorem u_45_18 : PW B X 45 18 lv (.long w :: .long z :: st) h Q ↔ PW B X 45 19 lv (.int (lg_cmp z w) :: st) h Q := PW_step rfl rfl rfl rfl
theorem u_45_19 : PW B X 45 19 lv (.int x :: st) h Q ↔ (if ¬ x = 0 then PW B X 45 33 lv (st) h Q else PW B X 45 22 lv (st) h Q) := PW_if rfl rfl pm_c_ne
theorem u_45_22 : PW B X 45 22 [some (.ref a), v1] (st) h Q ↔ PW B X 45 23 [some (.ref a), v1] (.ref a :: st) h Q := PW_step rfl rfl rfl rfl
theorem u_45_22n : PW B X 45 22 [some .null, v1] (st) h Q ↔ PW B X 45 23 [some .null, v1] (.null :: st) h Q := PW_step rfl rfl rfl rfl
theorem u_45_23 : PW B X 45 23 [v0, some (.int x)] (st) h Q ↔ PW B X 45 24 [v0, some (.int x)] (.int x :: st) h Q := PW_step rfl rfl rfl rfl
theorem u_45_24 : PW B X 45 24 lv (v :: .ref a :: st) h Q ↔ pm_O (pm_pf (pm_at B h a) 5 1 v) (fun e => PW B X 45 27 lv (st) (pm_set B h a e) Q) := PW_putf rfl rfl
theorem u_45_27 : PW B X 45 27 [v0, some (.int x)] (st) h Q ↔ PW B X 45 30 [pm_c v0, some (.int (x + (-1)))] (st) h Q := PW_step rfl rfl rfl rfl
theorem u_45_30 : PW B X 45 30 lv (st) h Q ↔ PW B X 45 7 lv (st) h Q := PW_step rfl rfl rfl rfl
theorem u_45_33 : PW B X 45 33 lv ([]) h Q ↔ Q none h := PW_ret rfl rfl
-- 46 Natural_copy
theorem u_46_0 : PW B X 46 0 [some (.ref a), v1, v2] (st) h Q ↔ PW B X 46 1 [some (.ref a), v1, v2] (.ref a :: st) h Q := PW_step rfl rfl rfl rfl
theorem u_46_0n : PW B X 46 0 [some .null, v1, v2] (st) h Q ↔ PW B X 46 1 [some .null, v1, v2] (.null :: st) h Q := PW_step rfl rfl rfl rfl
theorem u_46_1 : PW B X 46 1 [v0, some (.ref a), v2] (st) h Q ↔ PW B X 46 2 [v0, some (.ref a), v2] (.ref a :: st) h Q := PW_step rfl rfl rfl rfl
theorem u_46_1n : PW B X 46 1 [v0, some .null, v2] (st) h Q ↔ PW B X 46 2 [v0, some .null, v2] (.null :: st) h Q := PW_step rfl rfl rfl rfl
theorem u_46_2 : PW B X 46 2 lv (.ref a :: st) h Q ↔ pm_O (pm_gf (pm_at B h a) 5 1) (fun v => PW B X 46 5 lv (v :: st) h Q) := PW_getf rfl rfl
theorem u_46_5 : PW B X 46 5 lv (v :: .ref a :: st) h Q ↔ pm_O (pm_pf (pm_at B h a) 5 1 v) (fun e => PW B X 46 8 lv (st) (pm_set B h a e) Q) := PW_putf rfl rfl
theorem u_46_8 : PW B X 46 8 lv (st) h Q ↔ PW B X 46 9 lv (.int 0 :: st) h Q := PW_step rfl rfl rfl rfl
theorem u_46_9 : PW B X 46 9 [v0, v1, v2] (.int x :: st) h Q ↔ PW B X 46 10 [v0, pm_c v1, some (.int x)] (st) h Q := PW_step rfl rfl rfl rfl
theorem u_46_10 : PW B X 46 10 [v0, v1, some (.int x)] (st) h Q ↔ PW B X 46 11 [v0, v1, some (.int x)] (.int x :: st) h Q := PW_step rfl rfl rfl rfl
theorem u_46_11 : PW B X 46 11 [some (.ref a), v1, v2] (st) h Q ↔ PW B X 46 12 [some (.ref a), v1, v2] (.ref a :: st) h Q := PW_step rfl rfl rfl rfl
theorem u_46_11n : PW B X 46 11 [some .null, v1, v2] (st) h Q ↔ PW B X 46 12 [some .null, v1, v2] (.null :: st) h Q := PW_step rfl rfl rfl rfl
theorem u_46_12 : PW B X 46 12 lv (.ref a :: st) h Q ↔ pm_O (pm_gf (pm_at B h a) 5 1) (fun v => PW B X 46 15 lv (v :: st) h Q) := PW_getf rfl rfl
theorem u_46_15 : PW B X 46 15 lv (.int y :: .int x :: st) h Q ↔ (if y ≤ x then PW B X 46 36 lv (st) h Q else PW B X 46 18 lv (st) h Q) := PW_icmp rfl rfl pm_c_ge
theorem u_46_18 : PW B X 46 18 [some (.ref a), v1, v2] (st) h Q ↔ PW B X 46 19 [some (.ref a), v1, v2] (.ref a :: st) h Q := PW_step rfl rfl rfl rfl
theorem u_46_18n : PW B X 46 18 [some .null, v1, v2] (st) h Q ↔ PW B X 46 19 [some .null, v1, v2] (.null :: st) h Q := PW_step rfl rfl rfl rfl
theorem u_46_19 : PW B X 46 19 lv (.ref a :: st) h Q ↔ pm_O (pm_gf (pm_at B h a) 5 0) (fun v => PW B X 46 22 lv (v :: st) h Q) := PW_getf rfl rfl
theorem u_46_22 : PW B X 46 22 [v0, v1, some (.int x)] (st) h Q ↔ PW B X 46 23 [v0, v1, some (.int x)] (.int x :: st) h Q := PW_step rfl rfl rfl rfl
theorem u_46_23 : PW B X 46 23 [v0, some (.ref a), v2] (st) h Q ↔ PW B X 46 24 [v0, some (.ref a), v2] (.ref a :: st) h Q := PW_step rfl rfl rfl rfl
theorem u_46_23n : PW B X 46 23 [v0, some .null, v2] (st) h Q ↔ PW B X 46 24 [v0, some .null, v2] (.null :: st) h Q := PW_step rfl rfl rfl rfl
theorem u_46_24 : PW B X 46 24 lv (.ref a :: st) h Q ↔ pm_O (pm_gf (pm_at B h a) 5 0) (fun v => PW B X 46 27 lv (v :: st) h Q) := PW_getf rfl rfl
theorem u_46_27 : PW B X 46 27 [v0, v1, some (.int x)] (st) h Q ↔ PW B X 46 28 [v0, v1, some (.int x)] (.int x :: st) h Q := PW_step rfl rfl rfl rfl
theorem u_46_28 : PW B X 46 28 lv (.int x :: .ref a :: st) h Q ↔ pm_O (pm_ldl (pm_at B h a) x) (fun v => PW B X 46 29 lv (v :: st) h Q) := PW_lald rfl
theorem u_46_29 : PW B X 46 29 lv (.long z :: .int x :: .ref a :: st) h Q ↔ pm_O (pm_stl (pm_at B h a) x z) (fun e => PW B X 46 30 lv (st) (pm_set B h a e) Q) := PW_last rfl
theorem u_46_30 : PW B X 46 30 [v0, v1, some (.int x)] (st) h Q ↔ PW B X 46 33 [v0, pm_c v1, some (.int (x + 1))] (st) h Q := PW_step rfl rfl rfl rfl
theorem u_46_33 : PW B X 46 33 lv (st) h Q ↔ PW B X 46 10 lv (st) h Q := PW_step rfl rfl rfl rfl
theorem u_46_36 : PW B X 46 36 lv ([]) h Q ↔ Q none h := PW_ret rfl rfl
-- 47 Natural_add
theorem u_47_0 : PW B X 47 0 [some (.ref a), v1, v2, v3, v4, v5, v6, v7] (st) h Q ↔ PW B X 47 1 [some (.ref a), v1, v2, v3, v4, v5, v6, v7] (.ref a :: st) h Q := PW_step rfl rfl rfl rfl
theorem u_47_0n : PW B X 47 0 [some .null, v1, v2, v3, v4, v5, v6, v7] (st) h Q ↔ PW B X 47 1 [some .null, v1, v2, v3, v4, v5, v6, v7] (.null :: st) h Q := PW_step rfl rfl rfl rfl
theorem u_47_1 : PW B X 47 1 lv (.ref a :: st) h Q ↔ pm_O (pm_gf (pm_at B h a) 5 1) (fun v => PW B X 47 4 lv (v :: st) h Q) := PW_getf rfl rfl
theorem u_47_4 : PW B X 47 4 [v0, some (.ref a), v2, v3, v4, v5, v6, v7] (st) h Q ↔ PW B X 47 5 [v0, some (.ref a), v2, v3, v4, v5, v6, v7] (.ref a :: st) h Q := PW_step rfl rfl rfl rfl
theorem u_47_4n : PW B X 47 4 [v0, some .null, v2, v3, v4, v5, v6, v7] (st) h Q ↔ PW B X 47 5 [v0, some .null, v2, v3, v4, v5, v6, v7] (.null :: st) h Q := PW_step rfl rfl rfl rfl
theorem u_47_5 : PW B X 47 5 lv (.ref a :: st) h Q ↔ pm_O (pm_gf (pm_at B h a) 5 1) (fun v => PW B X 47 8 lv (v :: st) h Q) := PW_getf rfl rfl
theorem u_47_8 : PW B X 47 8 lv (.int y :: .int x :: st) h Q ↔ (pm_w st ≤ 8 ∧ PW B X 47 11 lv (.int (if x < y then y else x) :: st) h Q) := PW_math rfl rfl rfl rfl
theorem u_47_11 : PW B X 47 11 [v0, v1, v2, v3, v4, v5, v6, v7] (.int x :: st) h Q ↔ PW B X 47 12 [v0, pm_c v1, some (.int x), v3, v4, v5, v6, v7] (st) h Q := PW_step rfl rfl rfl rfl
theorem u_47_12 : PW B X 47 12 lv (st) h Q ↔ PW B X 47 13 lv (.long 0 :: st) h Q := PW_step rfl rfl rfl rfl
theorem u_47_13 : PW B X 47 13 [v0, v1, v2, v3, v4, v5, v6, v7] (.long z :: st) h Q ↔ PW B X 47 14 [v0, v1, pm_c v2, some (.long z), none, v5, v6, v7] (st) h Q := PW_step rfl rfl rfl rfl
theorem u_47_14 : PW B X 47 14 lv (st) h Q ↔ PW B X 47 15 lv (.int 0 :: st) h Q := PW_step rfl rfl rfl rfl
theorem u_47_15 : PW B X 47 15 [v0, v1, v2, v3, v4, v5, v6, v7] (.int x :: st) h Q ↔ PW B X 47 17 [v0, v1, v2, v3, pm_c v4, some (.int x), v6, v7] (st) h Q := PW_step rfl rfl rfl rfl
theorem u_47_17 : PW B X 47 17 [v0, v1, v2, v3, v4, some (.int x), v6, v7] (st) h Q ↔ PW B X 47 19 [v0, v1, v2, v3, v4, some (.int x), v6, v7] (.int x :: st) h Q := PW_step rfl rfl rfl rfl
theorem u_47_19 : PW B X 47 19 [v0, v1, some (.int x), v3, v4, v5, v6, v7] (st) h Q ↔ PW B X 47 20 [v0, v1, some (.int x), v3, v4, v5, v6, v7] (.int x :: st) h Q := PW_step rfl rfl rfl rfl
theorem u_47_20 : PW B X 47 20 lv (.int y :: .int x :: st) h Q ↔ (if y ≤ x then PW B X 47 66 lv (st) h Q else PW B X 47 23 lv (st) h Q) := PW_icmp rfl rfl pm_c_ge
theorem u_47_23 : PW B X 47 23 [some (.ref a), v1, v2, v3, v4, v5, v6, v7] (st) h Q ↔ PW B X 47 24 [some (.ref a), v1, v2, v3, v4, v5, v6, v7] (.ref a :: st) h Q := PW_step rfl rfl rfl rfl
theorem u_47_23n : PW B X 47 23 [some .null, v1, v2, v3, v4, v5, v6, v7] (st) h Q ↔ PW B X 47 24 [some .null, v1, v2, v3, v4, v5, v6, v7] (.null :: st) h Q := PW_step rfl rfl rfl rfl
theorem u_47_24 : PW B X 47 24 [v0, v1, v2, v3, v4, some (.int x), v6, v7] (st) h Q ↔ PW B X 47 26 [v0, v1, v2, v3, v4, some (.int x), v6, v7] (.int x :: st) h Q := PW_step rfl rfl rfl rfl
theorem u_47_26 : PW B X 47 26 lv (.int q0 :: .ref a :: st) h Q ↔ (pm_w st ≤ 8 ∧ pm_io B h a 5 = true ∧ PW B X 48 0 [some (.ref a), some (.int q0)] [] h (fun r h' => PW B X 47 29 lv (r.toList ++ st) h' Q)) := PW_cv (y := 48) (as := [.int q0]) (rest := st) rfl rfl rfl rfl rfl ⟨Nat.le_of_ble_eq_true rfl, Nat.le_of_ble_eq_true rfl, Nat.le_of_ble_eq_true rfl⟩
theorem u_47_29 : PW B X 47 29 [v0, some (.ref a), v2, v3, v4, v5, v6, v7] (st) h Q ↔ PW B X 47 30 [v0, some (.ref a), v2, v3, v4, v5, v6, v7] (.ref a :: st) h Q := PW_step rfl rfl rfl rfl
theorem u_47_29n : PW B X 47 29 [v0, some .null, v2, v3, v4, v5, v6, v7] (st) h Q ↔ PW B X 47 30 [v0, some .null, v2, v3, v4, v5, v6, v7] (.null :: st) h Q := PW_step rfl rfl rfl rfl
theorem u_47_30 : PW B X 47 30 [v0, v1, v2, v3, v4, some (.int x), v6, v7] (st) h Q ↔ PW B X 47 32 [v0, v1, v2, v3, v4, some (.int x), v6, v7] (.int x :: st) h Q := PW_step rfl rfl rfl rfl
theorem u_47_32 : PW B X 47 32 lv (.int q0 :: .ref a :: st) h Q ↔ (pm_w st ≤ 8 ∧ pm_io B h a 5 = true ∧ PW B X 48 0 [some (.ref a), some (.int q0)] [] h (fun r h' => PW B X 47 35 lv (r.toList ++ st) h' Q)) := PW_cv (y := 48) (as := [.int q0]) (rest := st) rfl rfl rfl rfl rfl ⟨Nat.le_of_ble_eq_true rfl, Nat.le_of_ble_eq_true rfl, Nat.le_of_ble_eq_true rfl⟩
theorem u_47_35 : PW B X 47 35 lv (.long w :: .long z :: st) h Q ↔ PW B X 47 36 lv (.long (z + w) :: st) h Q := PW_step rfl rfl rfl rfl
theorem u_47_36 : PW B X 47 36 [v0, v1, v2, some (.long z), v4, v5, v6, v7] (st) h Q ↔ PW B X 47 37 [v0, v1, v2, some (.long z), v4, v5, v6, v7] (.long z :: st) h Q := PW_step rfl rfl rfl rfl
theorem u_47_37 : PW B X 47 37 lv (.long w :: .long z :: st) h Q ↔ PW B X 47 38 lv (.long (z + w) :: st) h Q := PW_step rfl rfl rfl rfl
theorem u_47_38 : PW B X 47 38 [v0, v1, v2, v3, v4, v5, v6, v7] (.long z :: st) h Q ↔ PW B X 47 40 [v0, v1, v2, v3, v4, pm_c v5, some (.long z), none] (st) h Q := PW_step rfl rfl rfl rfl
theorem u_47_40 : PW B X 47 40 [some (.ref a), v1, v2, v3, v4, v5, v6, v7] (st) h Q ↔ PW B X 47 41 [some (.ref a), v1, v2, v3, v4, v5, v6, v7] (.ref a :: st) h Q := PW_step rfl rfl rfl rfl
theorem u_47_40n : PW B X 47 40 [some .null, v1, v2, v3, v4, v5, v6, v7] (st) h Q ↔ PW B X 47 41 [some .null, v1, v2, v3, v4, v5, v6, v7] (.null :: st) h Q := PW_step rfl rfl rfl rfl
theorem u_47_41 : PW B X 47 41 lv (.ref a :: st) h Q ↔ pm_O (pm_gf (pm_at B h a) 5 0) (fun v => PW B X 47 44 lv (v :: st) h Q) := PW_getf rfl rfl
theorem u_47_44 : PW B X 47 44 [v0, v1, v2, v3, v4, some (.int x), v6, v7] (st) h Q ↔ PW B X 47 46 [v0, v1, v2, v3, v4, some (.int x), v6, v7] (.int x :: st) h Q := PW_step rfl rfl rfl rfl
theorem u_47_46 : PW B X 47 46 [v0, v1, v2, v3, v4, v5, some (.long z), v7] (st) h Q ↔ PW B X 47 48 [v0, v1, v2, v3, v4, v5, some (.long z), v7] (.long z :: st) h Q := PW_step rfl rfl rfl rfl
theorem u_47_48 : PW B X 47 48 lv (st) h Q ↔ PW B X 47 51 lv (.long 1000000000 :: st) h Q := PW_step rfl rfl rfl rfl
theorem u_47_51 : PW B X 47 51 lv (.long w :: .long z :: st) h Q ↔ (¬ w = 0 ∧ PW B X 47 52 lv (.long (z - z / w * w) :: st) h Q) := PW_lrem rfl
theorem u_47_52 : PW B X 47 52 lv (.long z :: .int x :: .ref a :: st) h Q ↔ pm_O (pm_stl (pm_at B h a) x z) (fun e => PW B X 47 53 lv (st) (pm_set B h a e) Q) := PW_last rfl
theorem u_47_53 : PW B X 47 53 [v0, v1, v2, v3, v4, v5, some (.long z), v7] (st) h Q ↔ PW B X 47 55 [v0, v1, v2, v3, v4, v5, some (.long z), v7] (.long z :: st) h Q := PW_step rfl rfl rfl rfl
theorem u_47_55 : PW B X 47 55 lv (st) h Q ↔ PW B X 47 58 lv (.long 1000000000 :: st) h Q := PW_step rfl rfl rfl rfl
theorem u_47_58 : PW B X 47 58 lv (.long w :: .long z :: st) h Q ↔ (¬ w = 0 ∧ PW B X 47 59 lv (.long (z / w) :: st) h Q) := PW_ldiv rfl
theorem u_47_59 : PW B X 47 59 [v0, v1, v2, v3, v4, v5, v6, v7] (.long z :: st) h Q ↔ PW B X 47 60 [v0, v1, pm_c v2, some (.long z), none, v5, v6, v7] (st) h Q := PW_step rfl rfl rfl rfl
theorem u_47_60 : PW B X 47 60 [v0, v1, v2, v3, v4, some (.int x), v6, v7] (st) h Q ↔ PW B X 47 63 [v0, v1, v2, v3, pm_c v4, some (.int (x + 1)), v6, v7] (st) h Q := PW_step rfl rfl rfl rfl
theorem u_47_63 : PW B X 47 63 lv (st) h Q ↔ PW B X 47 17 lv (st) h Q := PW_step rfl rfl rfl rfl
theorem u_47_66 : PW B X 47 66 [some (.ref a), v1, v2, v3, v4, v5, v6, v7] (st) h Q ↔ PW B X 47 67 [some (.ref a), v1, v2, v3, v4, v5, v6, v7] (.ref a :: st) h Q := PW_step rfl rfl rfl rfl
theorem u_47_66n : PW B X 47 66 [some .null, v1, v2, v3, v4, v5, v6, v7] (st) h Q ↔ PW B X 47 67 [some .null, v1, v2, v3, v4, v5, v6, v7] (.null :: st) h Q := PW_step rfl rfl rfl rfl
theorem u_47_67 : PW B X 47 67 [v0, v1, some (.int x), v3, v4, v5, v6, v7] (st) h Q ↔ PW B X 47 68 [v0, v1, some (.int x), v3, v4, v5, v6, v7] (.int x :: st) h Q := PW_step rfl rfl rfl rfl
theorem u_47_68 : PW B X 47 68 lv (v :: .ref a :: st) h Q ↔ pm_O (pm_pf (pm_at B h a) 5 1 v) (fun e => PW B X 47 71 lv (st) (pm_set B h a e) Q) := PW_putf rfl rfl
theorem u_47_71 : PW B X 47 71 [v0, v1, v2, some (.long z), v4, v5, v6, v7] (st) h Q ↔ PW B X 47 72 [v0, v1, v2, some (.long z), v4, v5, v6, v7] (.long z :: st) h Q := PW_step rfl rfl rfl rfl
theorem u_47_72 : PW B X 47 72 lv (st) h Q ↔ PW B X 47 73 lv (.long 0 :: st) h Q := PW_step rfl rfl rfl rfl
theorem u_47_73 : PW B X 47 73 lv (.long w :: .long z :: st) h Q ↔ PW B X 47 74 lv (.int (lg_cmp z w) :: st) h Q := PW_step rfl rfl rfl rfl
theorem u_47_74 : PW B X 47 74 lv (.int x :: st) h Q ↔ (if x ≤ 0 then PW B X 47 82 lv (st) h Q else PW B X 47 77 lv (st) h Q) := PW_if rfl rfl pm_c_le
theorem u_47_77 : PW B X 47 77 [some (.ref a), v1, v2, v3, v4, v5, v6, v7] (st) h Q ↔ PW B X 47 78 [some (.ref a), v1, v2, v3, v4, v5, v6, v7] (.ref a :: st) h Q := PW_step rfl rfl rfl rfl
theorem u_47_77n : PW B X 47 77 [some .null, v1, v2, v3, v4, v5, v6, v7] (st) h Q ↔ PW B X 47 78 [some .null, v1, v2, v3, v4, v5, v6, v7] (.null :: st) h Q := PW_step rfl rfl rfl rfl
theorem u_47_78 : PW B X 47 78 [v0, v1, v2, some (.long z), v4, v5, v6, v7] (st) h Q ↔ PW B X 47 79 [v0, v1, v2, some (.long z), v4, v5, v6, v7] (.long z :: st) h Q := PW_step rfl rfl rfl rfl
theorem u_47_79 : PW B X 47 79 lv (.long p0 :: .ref a :: st) h Q ↔ (pm_w st ≤ 8 ∧ pm_io B h a 5 = true ∧ PW B X 10 0 [some (.ref a), some (.long p0), none] [] h (fun r h' => PW B X 47 82 lv (r.toList ++ st) h' Q)) := PW_cv (y := 10) (as := [.long p0]) (rest := st) rfl rfl rfl rfl rfl ⟨Nat.le_of_ble_eq_true rfl, Nat.le_of_ble_eq_true rfl, Nat.le_of_ble_eq_true rfl⟩
theorem u_47_82 : PW B X 47 82 lv ([]) h Q ↔ Q none h := PW_ret rfl rfl
-- 48 Natural_limbAt
theorem u_48_0 : PW B X 48 0 [v0, some (.int x)] (st) h Q ↔ PW B X 48 1 [v0, some (.int x)] (.int x :: st) h Q := PW_step rfl rfl rfl rfl
theorem u_48_1 : PW B X 48 1 lv (.int x :: st) h Q ↔ (if x < 0 then PW B X 48 21 lv (st) h Q else PW B X 48 4 lv (st) h Q) := PW_if rfl rfl pm_c_lt
theorem u_48_4 : PW B X 48 4 [v0, some (.int x)] (st) h Q ↔ PW B X 48 5 [v0, some (.int x)] (.int x :: st) h Q := PW_step rfl rfl rfl rfl
theorem u_48_5 : PW B X 48 5 [some (.ref a), v1] (st) h Q ↔ PW B X 48 6 [some (.ref a), v1] (.ref a :: st) h Q := PW_step rfl rfl rfl rfl
theorem u_48_5n : PW B X 48 5 [some .null, v1] (st) h Q ↔ PW B X 48 6 [some .null, v1] (.null :: st) h Q := PW_step rfl rfl rfl rfl
theorem u_48_6 : PW B X 48 6 lv (.ref a :: st) h Q ↔ pm_O (pm_gf (pm_at B h a) 5 1) (fun v => PW B X 48 9 lv (v :: st) h Q) := PW_getf rfl rfl
theorem u_48_9 : PW B X 48 9 lv (.int y :: .int x :: st) h Q ↔ (if y ≤ x then PW B X 48 21 lv (st) h Q else PW B X 48 12 lv (st) h Q) := PW_icmp rfl rfl pm_c_ge
theorem u_48_12 : PW B X 48 12 [some (.ref a), v1] (st) h Q ↔ PW B X 48 13 [some (.ref a), v1] (.ref a :: st) h Q := PW_step rfl rfl rfl rfl
theorem u_48_12n : PW B X 48 12 [some .null, v1] (st) h Q ↔ PW B X 48 13 [some .null, v1] (.null :: st) h Q := PW_step rfl rfl rfl rfl
theorem u_48_13 : PW B X 48 13 lv (.ref a :: st) h Q ↔ pm_O (pm_gf (pm_at B h a) 5 0) (fun v => PW B X 48 16 lv (v :: st) h Q) := PW_getf rfl rfl
theorem u_48_16 : PW B X 48 16 [v0, some (.int x)] (st) h Q ↔ PW B X 48 17 [v0, some (.int x)] (.int x :: st) h Q := PW_step rfl rfl rfl rfl
theorem u_48_17 : PW B X 48 17 lv (.int x :: .ref a :: st) h Q ↔ pm_O (pm_ldl (pm_at B h a) x) (fun v => PW B X 48 18 lv (v :: st) h Q) := PW_lald rfl
theorem u_48_18 : PW B X 48 18 lv (st) h Q ↔ PW B X 48 22 lv (st) h Q := PW_step rfl rfl rfl rfl
theorem u_48_21 : PW B X 48 21 lv (st) h Q ↔ PW B X 48 22 lv (.long 0 :: st) h Q := PW_step rfl rfl rfl rfl
theorem u_48_22 : PW B X 48 22 lv ([.long z]) h Q ↔ Q (some (.long z)) h := PW_ret rfl rfl
-- 50 Natural_compare
theorem u_50_0 : PW B X 50 0 [some (.ref a), v1, v2] (st) h Q ↔ PW B X 50 1 [some (.ref a), v1, v2] (.ref a :: st) h Q := PW_step rfl rfl rfl rfl
theorem u_50_0n : PW B X 50 0 [some .null, v1, v2] (st) h Q ↔ PW B X 50 1 [some .null, v1, v2] (.null :: st) h Q := PW_step rfl rfl rfl rfl
theorem u_50_1 : PW B X 50 1 lv (.ref a :: st) h Q ↔ pm_O (pm_gf (pm_at B h a) 5 1) (fun v => PW B X 50 4 lv (v :: st) h Q) := PW_getf rfl rfl
theorem u_50_4 : PW B X 50 4 [v0, some (.ref a), v2] (st) h Q ↔ PW B X 50 5 [v0, some (.ref a), v2] (.ref a :: st) h Q := PW_step rfl rfl rfl rfl
theorem u_50_4n : PW B X 50 4 [v0, some .null, v2] (st) h Q ↔ PW B X 50 5 [v0, some .null, v2] (.null :: st) h Q := PW_step rfl rfl rfl rfl
theorem u_50_5 : PW B X 50 5 lv (.ref a :: st) h Q ↔ pm_O (pm_gf (pm_at B h a) 5 1) (fun v => PW B X 50 8 lv (v :: st) h Q) := PW_getf rfl rfl
theorem u_50_8 : PW B X 50 8 lv (.int y :: .int x :: st) h Q ↔ (if x = y then PW B X 50 23 lv (st) h Q else PW B X 50 11 lv (st) h Q) := PW_icmp rfl rfl pm_c_eq
theorem u_50_11 : PW B X 50 11 [some (.ref a), v1, v2] (st) h Q ↔ PW B X 50 12 [some (.ref a), v1, v2] (.ref a :: st) h Q := PW_step rfl rfl rfl rfl
theorem u_50_11n : PW B X 50 11 [some .null, v1, v2] (st) h Q ↔ PW B X 50 12 [some .null, v1, v2] (.null :: st) h Q := PW_step rfl rfl rfl rfl
theorem u_50_12 : PW B X 50 12 lv (.ref a :: st) h Q ↔ pm_O (pm_gf (pm_at B h a) 5 1) (fun v => PW B X 50 15 lv (v :: st) h Q) := PW_getf rfl rfl
theorem u_50_15 : PW B X 50 15 [v0, some (.ref a), v2] (st) h Q ↔ PW B X 50 16 [v0, some (.ref a), v2] (.ref a :: st) h Q := PW_step rfl rfl rfl rfl
theorem u_50_15n : PW B X 50 15 [v0, some .null, v2] (st) h Q ↔ PW B X 50 16 [v0, some .null, v2] (.null :: st) h Q := PW_step rfl rfl rfl rfl
theorem u_50_16 : PW B X 50 16 lv (.ref a :: st) h Q ↔ pm_O (pm_gf (pm_at B h a) 5 1) (fun v => PW B X 50 19 lv (v :: st) h Q) := PW_getf rfl rfl
theorem u_50_19 : PW B X 50 19 lv (.int q1 :: .int q0 :: st) h Q ↔ (pm_w st ≤ 8 ∧ PW B X 51 0 [some (.int q0), some (.int q1)] [] h (fun r h' => PW B X 50 22 lv (r.toList ++ st) h' Q)) := PW_cs (y := 51) (as := [.int q0, .int q1]) (rest := st) rfl rfl rfl rfl rfl ⟨Nat.le_of_ble_eq_true rfl, Nat.le_of_ble_eq_true rfl, Nat.le_of_ble_eq_true rfl⟩
theorem u_50_22 : PW B X 50 22 lv ([.int x]) h Q ↔ Q (some (.int x)) h := PW_ret rfl rfl
theorem u_50_23 : PW B X 50 23 [some (.ref a), v1, v2] (st) h Q ↔ PW B X 50 24 [some (.ref a), v1, v2] (.ref a :: st) h Q := PW_step rfl rfl rfl rfl
theorem u_50_23n : PW B X 50 23 [some .null, v1, v2] (st) h Q ↔ PW B X 50 24 [some .null, v1, v2] (.null :: st) h Q := PW_step rfl rfl rfl rfl
theorem u_50_24 : PW B X 50 24 lv (.ref a :: st) h Q ↔ pm_O (pm_gf (pm_at B h a) 5 1) (fun v => PW B X 50 27 lv (v :: st) h Q) := PW_getf rfl rfl
theorem u_50_27 : PW B X 50 27 lv (st) h Q ↔ PW B X 50 28 lv (.int 1 :: st) h Q := PW_step rfl rfl rfl rfl
theorem u_50_28 : PW B X 50 28 lv (.int y :: .int x :: st) h Q ↔ PW B X 50 29 lv (.int (x - y) :: st) h Q := PW_step rfl rfl rfl rfl
theorem u_50_29 : PW B X 50 29 [v0, v1, v2] (.int x :: st) h Q ↔ PW B X 50 30 [v0, pm_c v1, some (.int x)] (st) h Q := PW_step rfl rfl rfl rfl
theorem u_50_30 : PW B X 50 30 [v0, v1, some (.int x)] (st) h Q ↔ PW B X 50 31 [v0, v1, some (.int x)] (.int x :: st) h Q := PW_step rfl rfl rfl rfl
theorem u_50_31 : PW B X 50 31 lv (.int x :: st) h Q ↔ (if x < 0 then PW B X 50 72 lv (st) h Q else PW B X 50 34 lv (st) h Q) := PW_if rfl rfl pm_c_lt
theorem u_50_34 : PW B X 50 34 [some (.ref a), v1, v2] (st) h Q ↔ PW B X 50 35 [some (.ref a), v1, v2] (.ref a :: st) h Q := PW_step rfl rfl rfl rfl
theorem u_50_34n : PW B X 50 34 [some .null, v1, v2] (st) h Q ↔ PW B X 50 35 [some .null, v1, v2] (.null :: st) h Q := PW_step rfl rfl rfl rfl
theorem u_50_35 : PW B X 50 35 lv (.ref a :: st) h Q ↔ pm_O (pm_gf (pm_at B h a) 5 0) (fun v => PW B X 50 38 lv (v :: st) h Q) := PW_getf rfl rfl
theorem u_50_38 : PW B X 50 38 [v0, v1, some (.int x)] (st) h Q ↔ PW B X 50 39 [v0, v1, some (.int x)] (.int x :: st) h Q := PW_step rfl rfl rfl rfl
theorem u_50_39 : PW B X 50 39 lv (.int x :: .ref a :: st) h Q ↔ pm_O (pm_ldl (pm_at B h a) x) (fun v => PW B X 50 40 lv (v :: st) h Q) := PW_lald rfl
theorem u_50_40 : PW B X 50 40 [v0, some (.ref a), v2] (st) h Q ↔ PW B X 50 41 [v0, some (.ref a), v2] (.ref a :: st) h Q := PW_step rfl rfl rfl rfl
theorem u_50_40n : PW B X 50 40 [v0, some .null, v2] (st) h Q ↔ PW B X 50 41 [v0, some .null, v2] (.null :: st) h Q := PW_step rfl rfl rfl rfl
theorem u_50_41 : PW B X 50 41 lv (.ref a :: st) h Q ↔ pm_O (pm_gf (pm_at B h a) 5 0) (fun v => PW B X 50 44 lv (v :: st) h Q) := PW_getf rfl rfl
theorem u_50_44 : PW B X 50 44 [v0, v1, some (.int x)] (st) h Q ↔ PW B X 50 45 [v0, v1, some (.int x)] (.int x :: st) h Q := PW_step rfl rfl rfl rfl
theorem u_50_45 : PW B X 50 45 lv (.int x :: .ref a :: st) h Q ↔ pm_O (pm_ldl (pm_at B h a) x) (fun v => PW B X 50 46 lv (v :: st) h Q) := PW_lald rfl
theorem u_50_46 : PW B X 50 46 lv (.long w :: .long z :: st) h Q ↔ PW B X 50 47 lv (.int (lg_cmp z w) :: st) h Q := PW_step rfl rfl rfl rfl
theorem u_50_47 : PW B X 50 47 lv (.int x :: st) h Q ↔ (if x = 0 then PW B X 50 66 lv (st) h Q else PW B X 50 50 lv (st) h Q) := PW_if rfl rfl pm_c_eq
theorem u_50_50 : PW B X 50 50 [some (.ref a), v1, v2] (st) h Q ↔ PW B X 50 51 [some (.ref a), v1, v2] (.ref a :: st) h Q := PW_step rfl rfl rfl rfl
theorem u_50_50n : PW B X 50 50 [some .null, v1, v2] (st) h Q ↔ PW B X 50 51 [some .null, v1, v2] (.null :: st) h Q := PW_step rfl rfl rfl rfl
theorem u_50_51 : PW B X 50 51 lv (.ref a :: st) h Q ↔ pm_O (pm_gf (pm_at B h a) 5 0) (fun v => PW B X 50 54 lv (v :: st) h Q) := PW_getf rfl rfl
theorem u_50_54 : PW B X 50 54 [v0, v1, some (.int x)] (st) h Q ↔ PW B X 50 55 [v0, v1, some (.int x)] (.int x :: st) h Q := PW_step rfl rfl rfl rfl
theorem u_50_55 : PW B X 50 55 lv (.int x :: .ref a :: st) h Q ↔ pm_O (pm_ldl (pm_at B h a) x) (fun v => PW B X 50 56 lv (v :: st) h Q) := PW_lald rfl
theorem u_50_56 : PW B X 50 56 [v0, some (.ref a), v2] (st) h Q ↔ PW B X 50 57 [v0, some (.ref a), v2] (.ref a :: st) h Q := PW_step rfl rfl rfl rfl
theorem u_50_56n : PW B X 50 56 [v0, some .null, v2] (st) h Q ↔ PW B X 50 57 [v0, some .null, v2] (.null :: st) h Q := PW_step rfl rfl rfl rfl
theorem u_50_57 : PW B X 50 57 lv (.ref a :: st) h Q ↔ pm_O (pm_gf (pm_at B h a) 5 0) (fun v => PW B X 50 60 lv (v :: st) h Q) := PW_getf rfl rfl
theorem u_50_60 : PW B X 50 60 [v0, v1, some (.int x)] (st) h Q ↔ PW B X 50 61 [v0, v1, some (.int x)] (.int x :: st) h Q := PW_step rfl rfl rfl rfl
theorem u_50_61 : PW B X 50 61 lv (.int x :: .ref a :: st) h Q ↔ pm_O (pm_ldl (pm_at B h a) x) (fun v => PW B X 50 62 lv (v :: st) h Q) := PW_lald rfl
theorem u_50_62 : PW B X 50 62 lv (.long p1 :: .long p0 :: st) h Q ↔ (pm_w st ≤ 8 ∧ PW B X 52 0 [some (.long p0), none, some (.long p1), none] [] h (fun r h' => PW B X 50 65 lv (r.toList ++ st) h' Q)) := PW_cs (y := 52) (as := [.long p0, .long p1]) (rest := st) rfl rfl rfl rfl rfl ⟨Nat.le_of_ble_eq_true rfl, Nat.le_of_ble_eq_true rfl, Nat.le_of_ble_eq_true rfl⟩
theorem u_50_65 : PW B X 50 65 lv ([.int x]) h Q ↔ Q (some (.int x)) h := PW_ret rfl rfl
theorem u_50_66 : PW B X 50 66 [v0, v1, some (.int x)] (st) h Q ↔ PW B X 50 69 [v0, pm_c v1, some (.int (x + (-1)))] (st) h Q := PW_step rfl rfl rfl rfl
theorem u_50_69 : PW B X 50 69 lv (st) h Q ↔ PW B X 50 30 lv (st) h Q := PW_step rfl rfl rfl rfl
theorem u_50_72 : PW B X 50 72 lv (st) h Q ↔ PW B X 50 73 lv (.int 0 :: st) h Q := PW_step rfl rfl rfl rfl
theorem u_50_73 : PW B X 50 73 lv ([.int x]) h Q ↔ Q (some (.int x)) h := PW_ret rfl rfl
-- 51 Integer_compare
theorem u_51_0 : PW B X 51 0 [some (.int x), v1] (st) h Q ↔ PW B X 51 1 [some (.int x), v1] (.int x :: st) h Q := PW_step rfl rfl rfl rfl
theorem u_51_1 : PW B X 51 1 [v0, some (.int x)] (st) h Q ↔ PW B X 51 2 [v0, some (.int x)] (.int x :: st) h Q := PW_step rfl rfl rfl rfl
theorem u_51_2 : PW B X 51 2 lv (.int y :: .int x :: st) h Q ↔ (if y ≤ x then PW B X 51 9 lv (st) h Q else PW B X 51 5 lv (st) h Q) := PW_icmp rfl rfl pm_c_ge
theorem u_51_5 : PW B X 51 5 lv (st) h Q ↔ PW B X 51 6 lv (.int (-1) :: st) h Q := PW_step rfl rfl rfl rfl
theorem u_51_6 : PW B X 51 6 lv (st) h Q ↔ PW B X 51 19 lv (st) h Q := PW_step rfl rfl rfl rfl
theorem u_51_9 : PW B X 51 9 [some (.int x), v1] (st) h Q ↔ PW B X 51 10 [some (.int x), v1] (.int x :: st) h Q := PW_step rfl rfl rfl rfl
theorem u_51_10 : PW B X 51 10 [v0, some (.int x)] (st) h Q ↔ PW B X 51 11 [v0, some (.int x)] (.int x :: st) h Q := PW_step rfl rfl rfl rfl
theorem u_51_11 : PW B X 51 11 lv (.int y :: .int x :: st) h Q ↔ (if ¬ x = y then PW B X 51 18 lv (st) h Q else PW B X 51 14 lv (st) h Q) := PW_icmp rfl rfl pm_c_ne
theorem u_51_14 : PW B X 51 14 lv (st) h Q ↔ PW B X 51 15 lv (.int 0 :: st) h Q := PW_step rfl rfl rfl rfl
theorem u_51_15 : PW B X 51 15 lv (st) h Q ↔ PW B X 51 19 lv (st) h Q := PW_step rfl rfl rfl rfl
theorem u_51_18 : PW B X 51 18 lv (st) h Q ↔ PW B X 51 19 lv (.int 1 :: st) h Q := PW_step rfl rfl rfl rfl
theorem u_51_19 : PW B X 51 19 lv ([.int x]) h Q ↔ Q (some (.int x)) h := PW_ret rfl rfl
-- 52 Long_compare
theorem u_52_0 : PW B X 52 0 [some (.long z), v1, v2, v3] (st) h Q ↔ PW B X 52 1 [some (.long z), v1, v2, v3] (.long z :: st) h Q := PW_step rfl rfl rfl rfl
theorem u_52_1 : PW B X 52 1 [v0, v1, some (.long z), v3] (st) h Q ↔ PW B X 52 2 [v0, v1, some (.long z), v3] (.long z :: st) h Q := PW_step rfl rfl rfl rfl
theorem u_52_2 : PW B X 52 2 lv (.long w :: .long z :: st) h Q ↔ PW B X 52 3 lv (.int (lg_cmp z w) :: st) h Q := PW_step rfl rfl rfl rfl
theorem u_52_3 : PW B X 52 3 lv (.int x :: st) h Q ↔ (if 0 ≤ x then PW B X 52 10 lv (st) h Q else PW B X 52 6 lv (st) h Q) := PW_if rfl rfl pm_c_ge
theorem u_52_6 : PW B X 52 6 lv (st) h Q ↔ PW B X 52 7 lv (.int (-1) :: st) h Q := PW_step rfl rfl rfl rfl
theorem u_52_7 : PW B X 52 7 lv (st) h Q ↔ PW B X 52 21 lv (st) h Q := PW_step rfl rfl rfl rfl
theorem u_52_10 : PW B X 52 10 [some (.long z), v1, v2, v3] (st) h Q ↔ PW B X 52 11 [some (.long z), v1, v2, v3] (.long z :: st) h Q := PW_step rfl rfl rfl rfl
theorem u_52_11 : PW B X 52 11 [v0, v1, some (.long z), v3] (st) h Q ↔ PW B X 52 12 [v0, v1, some (.long z), v3] (.long z :: st) h Q := PW_step rfl rfl rfl rfl
theorem u_52_12 : PW B X 52 12 lv (.long w :: .long z :: st) h Q ↔ PW B X 52 13 lv (.int (lg_cmp z w) :: st) h Q := PW_step rfl rfl rfl rfl
theorem u_52_13 : PW B X 52 13 lv (.int x :: st) h Q ↔ (if ¬ x = 0 then PW B X 52 20 lv (st) h Q else PW B X 52 16 lv (st) h Q) := PW_if rfl rfl pm_c_ne
theorem u_52_16 : PW B X 52 16 lv (st) h Q ↔ PW B X 52 17 lv (.int 0 :: st) h Q := PW_step rfl rfl rfl rfl
theorem u_52_17 : PW B X 52 17 lv (st) h Q ↔ PW B X 52 21 lv (st) h Q := PW_step rfl rfl rfl rfl
theorem u_52_20 : PW B X 52 20 lv (st) h Q ↔ PW B X 52 21 lv (.int 1 :: st) h Q := PW_step rfl rfl rfl rfl
theorem u_52_21 : PW B X 52 21 lv ([.int x]) h Q ↔ Q (some (.int x)) h := PW_ret rfl rfl
-- 53 Natural_subtract
theorem u_53_0 : PW B X 53 0 lv (st) h Q ↔ PW B X 53 1 lv (.long 0 :: st) h Q := PW_step rfl rfl rfl rfl
theorem u_53_1 : PW B X 53 1 [v0, v1, v2, v3, v4, v5, v6] (.long z :: st) h Q ↔ PW B X 53 2 [v0, pm_c v1, some (.long z), none, v4, v5, v6] (st) h Q := PW_step rfl rfl rfl rfl
theorem u_53_2 : PW B X 53 2 lv (st) h Q ↔ PW B X 53 3 lv (.int 0 :: st) h Q := PW_step rfl rfl rfl rfl
theorem u_53_3 : PW B X 53 3 [v0, v1, v2, v3, v4, v5, v6] (.int x :: st) h Q ↔ PW B X 53 5 [v0, v1, v2, pm_c v3, some (.int x), v5, v6] (st) h Q := PW_step rfl rfl rfl rfl
theorem u_53_5 : PW B X 53 5 [v0, v1, v2, v3, some (.int x), v5, v6] (st) h Q ↔ PW B X 53 7 [v0, v1, v2, v3, some (.int x), v5, v6] (.int x :: st) h Q := PW_step rfl rfl rfl rfl
theorem u_53_7 : PW B X 53 7 [some (.ref a), v1, v2, v3, v4, v5, v6] (st) h Q ↔ PW B X 53 8 [some (.ref a), v1, v2, v3, v4, v5, v6] (.ref a :: st) h Q := PW_step rfl rfl rfl rfl
theorem u_53_7n : PW B X 53 7 [some .null, v1, v2, v3, v4, v5, v6] (st) h Q ↔ PW B X 53 8 [some .null, v1, v2, v3, v4, v5, v6] (.null :: st) h Q := PW_step rfl rfl rfl rfl
theorem u_53_8 : PW B X 53 8 lv (.ref a :: st) h Q ↔ pm_O (pm_gf (pm_at B h a) 5 1) (fun v => PW B X 53 11 lv (v :: st) h Q) := PW_getf rfl rfl
theorem u_53_11 : PW B X 53 11 lv (.int y :: .int x :: st) h Q ↔ (if y ≤ x then PW B X 53 66 lv (st) h Q else PW B X 53 14 lv (st) h Q) := PW_icmp rfl rfl pm_c_ge
theorem u_53_14 : PW B X 53 14 [some (.ref a), v1, v2, v3, v4, v5, v6] (st) h Q ↔ PW B X 53 15 [some (.ref a), v1, v2, v3, v4, v5, v6] (.ref a :: st) h Q := PW_step rfl rfl rfl rfl
theorem u_53_14n : PW B X 53 14 [some .null, v1, v2, v3, v4, v5, v6] (st) h Q ↔ PW B X 53 15 [some .null, v1, v2, v3, v4, v5, v6] (.null :: st) h Q := PW_step rfl rfl rfl rfl
theorem u_53_15 : PW B X 53 15 lv (.ref a :: st) h Q ↔ pm_O (pm_gf (pm_at B h a) 5 0) (fun v => PW B X 53 18 lv (v :: st) h Q) := PW_getf rfl rfl
theorem u_53_18 : PW B X 53 18 [v0, v1, v2, v3, some (.int x), v5, v6] (st) h Q ↔ PW B X 53 20 [v0, v1, v2, v3, some (.int x), v5, v6] (.int x :: st) h Q := PW_step rfl rfl rfl rfl
theorem u_53_20 : PW B X 53 20 lv (.int x :: .ref a :: st) h Q ↔ pm_O (pm_ldl (pm_at B h a) x) (fun v => PW B X 53 21 lv (v :: st) h Q) := PW_lald rfl
theorem u_53_21 : PW B X 53 21 [v0, some (.ref a), v2, v3, v4, v5, v6] (st) h Q ↔ PW B X 53 22 [v0, some (.ref a), v2, v3, v4, v5, v6] (.ref a :: st) h Q := PW_step rfl rfl rfl rfl
theorem u_53_21n : PW B X 53 21 [v0, some .null, v2, v3, v4, v5, v6] (st) h Q ↔ PW B X 53 22 [v0, some .null, v2, v3, v4, v5, v6] (.null :: st) h Q := PW_step rfl rfl rfl rfl
theorem u_53_22 : PW B X 53 22 [v0, v1, v2, v3, some (.int x), v5, v6] (st) h Q ↔ PW B X 53 24 [v0, v1, v2, v3, some (.int x), v5, v6] (.int x :: st) h Q := PW_step rfl rfl rfl rfl
theorem u_53_24 : PW B X 53 24 lv (.int q0 :: .ref a :: st) h Q ↔ (pm_w st ≤ 8 ∧ pm_io B h a 5 = true ∧ PW B X 48 0 [some (.ref a), some (.int q0)] [] h (fun r h' => PW B X 53 27 lv (r.toList ++ st) h' Q)) := PW_cv (y := 48) (as := [.int q0]) (rest := st) rfl rfl rfl rfl rfl ⟨Nat.le_of_ble_eq_true rfl, Nat.le_of_ble_eq_true rfl, Nat.le_of_ble_eq_true rfl⟩
theorem u_53_27 : PW B X 53 27 lv (.long w :: .long z :: st) h Q ↔ PW B X 53 28 lv (.long (z - w) :: st) h Q := PW_step rfl rfl rfl rfl
theorem u_53_28 : PW B X 53 28 [v0, v1, some (.long z), v3, v4, v5, v6] (st) h Q ↔ PW B X 53 29 [v0, v1, some (.long z), v3, v4, v5, v6] (.long z :: st) h Q := PW_step rfl rfl rfl rfl
theorem u_53_29 : PW B X 53 29 lv (.long w :: .long z :: st) h Q ↔ PW B X 53 30 lv (.long (z - w) :: st) h Q := PW_step rfl rfl rfl rfl
theorem u_53_30 : PW B X 53 30 [v0, v1, v2, v3, v4, v5, v6] (.long z :: st) h Q ↔ PW B X 53 32 [v0, v1, v2, v3, pm_c v4, some (.long z), none] (st) h Q := PW_step rfl rfl rfl rfl
theorem u_53_32 : PW B X 53 32 [v0, v1, v2, v3, v4, some (.long z), v6] (st) h Q ↔ PW B X 53 34 [v0, v1, v2, v3, v4, some (.long z), v6] (.long z :: st) h Q := PW_step rfl rfl rfl rfl
theorem u_53_34 : PW B X 53 34 lv (st) h Q ↔ PW B X 53 35 lv (.long 0 :: st) h Q := PW_step rfl rfl rfl rfl
theorem u_53_35 : PW B X 53 35 lv (.long w :: .long z :: st) h Q ↔ PW B X 53 36 lv (.int (lg_cmp z w) :: st) h Q := PW_step rfl rfl rfl rfl
theorem u_53_36 : PW B X 53 36 lv (.int x :: st) h Q ↔ (if 0 ≤ x then PW B X 53 43 lv (st) h Q else PW B X 53 39 lv (st) h Q) := PW_if rfl rfl pm_c_ge
theorem u_53_39 : PW B X 53 39 lv (st) h Q ↔ PW B X 53 40 lv (.long 1 :: st) h Q := PW_step rfl rfl rfl rfl
theorem u_53_40 : PW B X 53 40 lv (st) h Q ↔ PW B X 53 44 lv (st) h Q := PW_step rfl rfl rfl rfl
theorem u_53_43 : PW B X 53 43 lv (st) h Q ↔ PW B X 53 44 lv (.long 0 :: st) h Q := PW_step rfl rfl rfl rfl
theorem u_53_44 : PW B X 53 44 [v0, v1, v2, v3, v4, v5, v6] (.long z :: st) h Q ↔ PW B X 53 45 [v0, pm_c v1, some (.long z), none, v4, v5, v6] (st) h Q := PW_step rfl rfl rfl rfl
theorem u_53_45 : PW B X 53 45 [some (.ref a), v1, v2, v3, v4, v5, v6] (st) h Q ↔ PW B X 53 46 [some (.ref a), v1, v2, v3, v4, v5, v6] (.ref a :: st) h Q := PW_step rfl rfl rfl rfl
theorem u_53_45n : PW B X 53 45 [some .null, v1, v2, v3, v4, v5, v6] (st) h Q ↔ PW B X 53 46 [some .null, v1, v2, v3, v4, v5, v6] (.null :: st) h Q := PW_step rfl rfl rfl rfl
theorem u_53_46 : PW B X 53 46 lv (.ref a :: st) h Q ↔ pm_O (pm_gf (pm_at B h a) 5 0) (fun v => PW B X 53 49 lv (v :: st) h Q) := PW_getf rfl rfl
theorem u_53_49 : PW B X 53 49 [v0, v1, v2, v3, some (.int x), v5, v6] (st) h Q ↔ PW B X 53 51 [v0, v1, v2, v3, some (.int x), v5, v6] (.int x :: st) h Q := PW_step rfl rfl rfl rfl
theorem u_53_51 : PW B X 53 51 [v0, v1, v2, v3, v4, some (.long z), v6] (st) h Q ↔ PW B X 53 53 [v0, v1, v2, v3, v4, some (.long z), v6] (.long z :: st) h Q := PW_step rfl rfl rfl rfl
theorem u_53_53 : PW B X 53 53 [v0, v1, some (.long z), v3, v4, v5, v6] (st) h Q ↔ PW B X 53 54 [v0, v1, some (.long z), v3, v4, v5, v6] (.long z :: st) h Q := PW_step rfl rfl rfl rfl
theorem u_53_54 : PW B X 53 54 lv (st) h Q ↔ PW B X 53 57 lv (.long 1000000000 :: st) h Q := PW_step rfl rfl rfl rfl
theorem u_53_57 : PW B X 53 57 lv (.long w :: .long z :: st) h Q ↔ PW B X 53 58 lv (.long (z * w) :: st) h Q := PW_step rfl rfl rfl rfl
theorem u_53_58 : PW B X 53 58 lv (.long w :: .long z :: st) h Q ↔ PW B X 53 59 lv (.long (z + w) :: st) h Q := PW_step rfl rfl rfl rfl
theorem u_53_59 : PW B X 53 59 lv (.long z :: .int x :: .ref a :: st) h Q ↔ pm_O (pm_stl (pm_at B h a) x z) (fun e => PW B X 53 60 lv (st) (pm_set B h a e) Q) := PW_last rfl
theorem u_53_60 : PW B X 53 60 [v0, v1, v2, v3, some (.int x), v5, v6] (st) h Q ↔ PW B X 53 63 [v0, v1, v2, pm_c v3, some (.int (x + 1)), v5, v6] (st) h Q := PW_step rfl rfl rfl rfl
theorem u_53_63 : PW B X 53 63 lv (st) h Q ↔ PW B X 53 5 lv (st) h Q := PW_step rfl rfl rfl rfl
theorem u_53_66 : PW B X 53 66 [some (.ref a), v1, v2, v3, v4, v5, v6] (st) h Q ↔ PW B X 53 67 [some (.ref a), v1, v2, v3, v4, v5, v6] (.ref a :: st) h Q := PW_step rfl rfl rfl rfl
theorem u_53_66n : PW B X 53 66 [some .null, v1, v2, v3, v4, v5, v6] (st) h Q ↔ PW B X 53 67 [some .null, v1, v2, v3, v4, v5, v6] (.null :: st) h Q := PW_step rfl rfl rfl rfl
theorem u_53_67 : PW B X 53 67 lv (.ref a :: st) h Q ↔ (pm_w st ≤ 8 ∧ pm_io B h a 5 = true ∧ PW B X 45 0 [some (.ref a), none] [] h (fun r h' => PW B X 53 70 lv (r.toList ++ st) h' Q)) := PW_cv (y := 45) (as := []) (rest := st) rfl rfl rfl rfl rfl ⟨Nat.le_of_ble_eq_true rfl, Nat.le_of_ble_eq_true rfl, Nat.le_of_ble_eq_true rfl⟩
theorem u_53_70 : PW B X 53 70 lv ([]) h Q ↔ Q none h := PW_ret rfl rfl
-- 54 Natural_remainder
theorem u_54_0 : PW B X 54 0 [v0, some (.long z), v2, v3, v4, v5] (st) h Q ↔ PW B X 54 1 [v0, some (.long z), v2, v3, v4, v5] (.long z :: st) h Q := PW_step rfl rfl rfl rfl
theorem u_54_1 : PW B X 54 1 lv (st) h Q ↔ PW B X 54 2 lv (.long 0 :: st) h Q := PW_step rfl rfl rfl rfl
theorem u_54_2 : PW B X 54 2 lv (.long w :: .long z :: st) h Q ↔ PW B X 54 3 lv (.int (lg_cmp z w) :: st) h Q := PW_step rfl rfl rfl rfl
theorem u_54_3 : PW B X 54 3 lv (.int x :: st) h Q ↔ (if 0 < x then PW B X 54 8 lv (st) h Q else PW B X 54 6 lv (st) h Q) := PW_if rfl rfl pm_c_gt
theorem u_54_6 : PW B X 54 6 lv (st) h Q ↔ PW B X 54 7 lv (.long 0 :: st) h Q := PW_step rfl rfl rfl rfl
theorem u_54_7 : PW B X 54 7 lv ([.long z]) h Q ↔ Q (some (.long z)) h := PW_ret rfl rfl
theorem u_54_8 : PW B X 54 8 lv (st) h Q ↔ PW B X 54 9 lv (.long 0 :: st) h Q := PW_step rfl rfl rfl rfl
theorem u_54_9 : PW B X 54 9 [v0, v1, v2, v3, v4, v5] (.long z :: st) h Q ↔ PW B X 54 10 [v0, v1, pm_c v2, some (.long z), none, v5] (st) h Q := PW_step rfl rfl rfl rfl
theorem u_54_10 : PW B X 54 10 [some (.ref a), v1, v2, v3, v4, v5] (st) h Q ↔ PW B X 54 11 [some (.ref a), v1, v2, v3, v4, v5] (.ref a :: st) h Q := PW_step rfl rfl rfl rfl
theorem u_54_10n : PW B X 54 10 [some .null, v1, v2, v3, v4, v5] (st) h Q ↔ PW B X 54 11 [some .null, v1, v2, v3, v4, v5] (.null :: st) h Q := PW_step rfl rfl rfl rfl
theorem u_54_11 : PW B X 54 11 lv (.ref a :: st) h Q ↔ pm_O (pm_gf (pm_at B h a) 5 1) (fun v => PW B X 54 14 lv (v :: st) h Q) := PW_getf rfl rfl
theorem u_54_14 : PW B X 54 14 lv (st) h Q ↔ PW B X 54 15 lv (.int 1 :: st) h Q := PW_step rfl rfl rfl rfl
theorem u_54_15 : PW B X 54 15 lv (.int y :: .int x :: st) h Q ↔ PW B X 54 16 lv (.int (x - y) :: st) h Q := PW_step rfl rfl rfl rfl
theorem u_54_16 : PW B X 54 16 [v0, v1, v2, v3, v4, v5] (.int x :: st) h Q ↔ PW B X 54 18 [v0, v1, v2, v3, pm_c v4, some (.int x)] (st) h Q := PW_step rfl rfl rfl rfl
theorem u_54_18 : PW B X 54 18 [v0, v1, v2, v3, v4, some (.int x)] (st) h Q ↔ PW B X 54 20 [v0, v1, v2, v3, v4, some (.int x)] (.int x :: st) h Q := PW_step rfl rfl rfl rfl
theorem u_54_20 : PW B X 54 20 lv (.int x :: st) h Q ↔ (if x < 0 then PW B X 54 45 lv (st) h Q else PW B X 54 23 lv (st) h Q) := PW_if rfl rfl pm_c_lt
theorem u_54_23 : PW B X 54 23 [v0, v1, v2, some (.long z), v4, v5] (st) h Q ↔ PW B X 54 24 [v0, v1, v2, some (.long z), v4, v5] (.long z :: st) h Q := PW_step rfl rfl rfl rfl
theorem u_54_24 : PW B X 54 24 lv (st) h Q ↔ PW B X 54 27 lv (.long 1000000000 :: st) h Q := PW_step rfl rfl rfl rfl
theorem u_54_27 : PW B X 54 27 lv (.long w :: .long z :: st) h Q ↔ PW B X 54 28 lv (.long (z * w) :: st) h Q := PW_step rfl rfl rfl rfl
theorem u_54_28 : PW B X 54 28 [some (.ref a), v1, v2, v3, v4, v5] (st) h Q ↔ PW B X 54 29 [some (.ref a), v1, v2, v3, v4, v5] (.ref a :: st) h Q := PW_step rfl rfl rfl rfl
theorem u_54_28n : PW B X 54 28 [some .null, v1, v2, v3, v4, v5] (st) h Q ↔ PW B X 54 29 [some .null, v1, v2, v3, v4, v5] (.null :: st) h Q := PW_step rfl rfl rfl rfl
theorem u_54_29 : PW B X 54 29 lv (.ref a :: st) h Q ↔ pm_O (pm_gf (pm_at B h a) 5 0) (fun v => PW B X 54 32 lv (v :: st) h Q) := PW_getf rfl rfl
theorem u_54_32 : PW B X 54 32 [v0, v1, v2, v3, v4, some (.int x)] (st) h Q ↔ PW B X 54 34 [v0, v1, v2, v3, v4, some (.int x)] (.int x :: st) h Q := PW_step rfl rfl rfl rfl
theorem u_54_34 : PW B X 54 34 lv (.int x :: .ref a :: st) h Q ↔ pm_O (pm_ldl (pm_at B h a) x) (fun v => PW B X 54 35 lv (v :: st) h Q) := PW_lald rfl
theorem u_54_35 : PW B X 54 35 lv (.long w :: .long z :: st) h Q ↔ PW B X 54 36 lv (.long (z + w) :: st) h Q := PW_step rfl rfl rfl rfl
theorem u_54_36 : PW B X 54 36 [v0, some (.long z), v2, v3, v4, v5] (st) h Q ↔ PW B X 54 37 [v0, some (.long z), v2, v3, v4, v5] (.long z :: st) h Q := PW_step rfl rfl rfl rfl
theorem u_54_37 : PW B X 54 37 lv (.long w :: .long z :: st) h Q ↔ (¬ w = 0 ∧ PW B X 54 38 lv (.long (z - z / w * w) :: st) h Q) := PW_lrem rfl
theorem u_54_38 : PW B X 54 38 [v0, v1, v2, v3, v4, v5] (.long z :: st) h Q ↔ PW B X 54 39 [v0, v1, pm_c v2, some (.long z), none, v5] (st) h Q := PW_step rfl rfl rfl rfl
theorem u_54_39 : PW B X 54 39 [v0, v1, v2, v3, v4, some (.int x)] (st) h Q ↔ PW B X 54 42 [v0, v1, v2, v3, pm_c v4, some (.int (x + (-1)))] (st) h Q := PW_step rfl rfl rfl rfl
theorem u_54_42 : PW B X 54 42 lv (st) h Q ↔ PW B X 54 18 lv (st) h Q := PW_step rfl rfl rfl rfl
theorem u_54_45 : PW B X 54 45 [v0, v1, v2, some (.long z), v4, v5] (st) h Q ↔ PW B X 54 46 [v0, v1, v2, some (.long z), v4, v5] (.long z :: st) h Q := PW_step rfl rfl rfl rfl
theorem u_54_46 : PW B X 54 46 lv ([.long z]) h Q ↔ Q (some (.long z)) h := PW_ret rfl rfl
-- 55 Natural_divide
theorem u_55_0 : PW B X 55 0 [v0, some (.long z), v2, v3, v4, v5, v6, v7] (st) h Q ↔ PW B X 55 1 [v0, some (.long z), v2, v3, v4, v5, v6, v7] (.long z :: st) h Q := PW_step rfl rfl rfl rfl
theorem u_55_1 : PW B X 55 1 lv (st) h Q ↔ PW B X 55 2 lv (.long 0 :: st) h Q := PW_step rfl rfl rfl rfl
theorem u_55_2 : PW B X 55 2 lv (.long w :: .long z :: st) h Q ↔ PW B X 55 3 lv (.int (lg_cmp z w) :: st) h Q := PW_step rfl rfl rfl rfl
theorem u_55_3 : PW B X 55 3 lv (.int x :: st) h Q ↔ (if 0 < x then PW B X 55 7 lv (st) h Q else PW B X 55 6 lv (st) h Q) := PW_if rfl rfl pm_c_gt
theorem u_55_6 : PW B X 55 6 lv ([]) h Q ↔ Q none h := PW_ret rfl rfl
theorem u_55_7 : PW B X 55 7 lv (st) h Q ↔ PW B X 55 8 lv (.long 0 :: st) h Q := PW_step rfl rfl rfl rfl
theorem u_55_8 : PW B X 55 8 [v0, v1, v2, v3, v4, v5, v6, v7] (.long z :: st) h Q ↔ PW B X 55 9 [v0, v1, pm_c v2, some (.long z), none, v5, v6, v7] (st) h Q := PW_step rfl rfl rfl rfl
theorem u_55_9 : PW B X 55 9 [some (.ref a), v1, v2, v3, v4, v5, v6, v7] (st) h Q ↔ PW B X 55 10 [some (.ref a), v1, v2, v3, v4, v5, v6, v7] (.ref a :: st) h Q := PW_step rfl rfl rfl rfl
theorem u_55_9n : PW B X 55 9 [some .null, v1, v2, v3, v4, v5, v6, v7] (st) h Q ↔ PW B X 55 10 [some .null, v1, v2, v3, v4, v5, v6, v7] (.null :: st) h Q := PW_step rfl rfl rfl rfl
theorem u_55_10 : PW B X 55 10 lv (.ref a :: st) h Q ↔ pm_O (pm_gf (pm_at B h a) 5 1) (fun v => PW B X 55 13 lv (v :: st) h Q) := PW_getf rfl rfl
theorem u_55_13 : PW B X 55 13 lv (st) h Q ↔ PW B X 55 14 lv (.int 1 :: st) h Q := PW_step rfl rfl rfl rfl
theorem u_55_14 : PW B X 55 14 lv (.int y :: .int x :: st) h Q ↔ PW B X 55 15 lv (.int (x - y) :: st) h Q := PW_step rfl rfl rfl rfl
theorem u_55_15 : PW B X 55 15 [v0, v1, v2, v3, v4, v5, v6, v7] (.int x :: st) h Q ↔ PW B X 55 17 [v0, v1, v2, v3, pm_c v4, some (.int x), v6, v7] (st) h Q := PW_step rfl rfl rfl rfl
theorem u_55_17 : PW B X 55 17 [v0, v1, v2, v3, v4, some (.int x), v6, v7] (st) h Q ↔ PW B X 55 19 [v0, v1, v2, v3, v4, some (.int x), v6, v7] (.int x :: st) h Q := PW_step rfl rfl rfl rfl
theorem u_55_19 : PW B X 55 19 lv (.int x :: st) h Q ↔ (if x < 0 then PW B X 55 59 lv (st) h Q else PW B X 55 22 lv (st) h Q) := PW_if rfl rfl pm_c_lt
theorem u_55_22 : PW B X 55 22 [v0, v1, v2, some (.long z), v4, v5, v6, v7] (st) h Q ↔ PW B X 55 23 [v0, v1, v2, some (.long z), v4, v5, v6, v7] (.long z :: st) h Q := PW_step rfl rfl rfl rfl
theorem u_55_23 : PW B X 55 23 lv (st) h Q ↔ PW B X 55 26 lv (.long 1000000000 :: st) h Q := PW_step rfl rfl rfl rfl
theorem u_55_26 : PW B X 55 26 lv (.long w :: .long z :: st) h Q ↔ PW B X 55 27 lv (.long (z * w) :: st) h Q := PW_step rfl rfl rfl rfl
theorem u_55_27 : PW B X 55 27 [some (.ref a), v1, v2, v3, v4, v5, v6, v7] (st) h Q ↔ PW B X 55 28 [some (.ref a), v1, v2, v3, v4, v5, v6, v7] (.ref a :: st) h Q := PW_step rfl rfl rfl rfl
theorem u_55_27n : PW B X 55 27 [some .null, v1, v2, v3, v4, v5, v6, v7] (st) h Q ↔ PW B X 55 28 [some .null, v1, v2, v3, v4, v5, v6, v7] (.null :: st) h Q := PW_step rfl rfl rfl rfl
theorem u_55_28 : PW B X 55 28 lv (.ref a :: st) h Q ↔ pm_O (pm_gf (pm_at B h a) 5 0) (fun v => PW B X 55 31 lv (v :: st) h Q) := PW_getf rfl rfl
theorem u_55_31 : PW B X 55 31 [v0, v1, v2, v3, v4, some (.int x), v6, v7] (st) h Q ↔ PW B X 55 33 [v0, v1, v2, v3, v4, some (.int x), v6, v7] (.int x :: st) h Q := PW_step rfl rfl rfl rfl
theorem u_55_33 : PW B X 55 33 lv (.int x :: .ref a :: st) h Q ↔ pm_O (pm_ldl (pm_at B h a) x) (fun v => PW B X 55 34 lv (v :: st) h Q) := PW_lald rfl
theorem u_55_34 : PW B X 55 34 lv (.long w :: .long z :: st) h Q ↔ PW B X 55 35 lv (.long (z + w) :: st) h Q := PW_step rfl rfl rfl rfl
theorem u_55_35 : PW B X 55 35 [v0, v1, v2, v3, v4, v5, v6, v7] (.long z :: st) h Q ↔ PW B X 55 37 [v0, v1, v2, v3, v4, pm_c v5, some (.long z), none] (st) h Q := PW_step rfl rfl rfl rfl
theorem u_55_37 : PW B X 55 37 [some (.ref a), v1, v2, v3, v4, v5, v6, v7] (st) h Q ↔ PW B X 55 38 [some (.ref a), v1, v2, v3, v4, v5, v6, v7] (.ref a :: st) h Q := PW_step rfl rfl rfl rfl
theorem u_55_37n : PW B X 55 37 [some .null, v1, v2, v3, v4, v5, v6, v7] (st) h Q ↔ PW B X 55 38 [some .null, v1, v2, v3, v4, v5, v6, v7] (.null :: st) h Q := PW_step rfl rfl rfl rfl
theorem u_55_38 : PW B X 55 38 lv (.ref a :: st) h Q ↔ pm_O (pm_gf (pm_at B h a) 5 0) (fun v => PW B X 55 41 lv (v :: st) h Q) := PW_getf rfl rfl
theorem u_55_41 : PW B X 55 41 [v0, v1, v2, v3, v4, some (.int x), v6, v7] (st) h Q ↔ PW B X 55 43 [v0, v1, v2, v3, v4, some (.int x), v6, v7] (.int x :: st) h Q := PW_step rfl rfl rfl rfl
theorem u_55_43 : PW B X 55 43 [v0, v1, v2, v3, v4, v5, some (.long z), v7] (st) h Q ↔ PW B X 55 45 [v0, v1, v2, v3, v4, v5, some (.long z), v7] (.long z :: st) h Q := PW_step rfl rfl rfl rfl
theorem u_55_45 : PW B X 55 45 [v0, some (.long z), v2, v3, v4, v5, v6, v7] (st) h Q ↔ PW B X 55 46 [v0, some (.long z), v2, v3, v4, v5, v6, v7] (.long z :: st) h Q := PW_step rfl rfl rfl rfl
theorem u_55_46 : PW B X 55 46 lv (.long w :: .long z :: st) h Q ↔ (¬ w = 0 ∧ PW B X 55 47 lv (.long (z / w) :: st) h Q) := PW_ldiv rfl
theorem u_55_47 : PW B X 55 47 lv (.long z :: .int x :: .ref a :: st) h Q ↔ pm_O (pm_stl (pm_at B h a) x z) (fun e => PW B X 55 48 lv (st) (pm_set B h a e) Q) := PW_last rfl
theorem u_55_48 : PW B X 55 48 [v0, v1, v2, v3, v4, v5, some (.long z), v7] (st) h Q ↔ PW B X 55 50 [v0, v1, v2, v3, v4, v5, some (.long z), v7] (.long z :: st) h Q := PW_step rfl rfl rfl rfl
theorem u_55_50 : PW B X 55 50 [v0, some (.long z), v2, v3, v4, v5, v6, v7] (st) h Q ↔ PW B X 55 51 [v0, some (.long z), v2, v3, v4, v5, v6, v7] (.long z :: st) h Q := PW_step rfl rfl rfl rfl
theorem u_55_51 : PW B X 55 51 lv (.long w :: .long z :: st) h Q ↔ (¬ w = 0 ∧ PW B X 55 52 lv (.long (z - z / w * w) :: st) h Q) := PW_lrem rfl
theorem u_55_52 : PW B X 55 52 [v0, v1, v2, v3, v4, v5, v6, v7] (.long z :: st) h Q ↔ PW B X 55 53 [v0, v1, pm_c v2, some (.long z), none, v5, v6, v7] (st) h Q := PW_step rfl rfl rfl rfl
theorem u_55_53 : PW B X 55 53 [v0, v1, v2, v3, v4, some (.int x), v6, v7] (st) h Q ↔ PW B X 55 56 [v0, v1, v2, v3, pm_c v4, some (.int (x + (-1))), v6, v7] (st) h Q := PW_step rfl rfl rfl rfl
theorem u_55_56 : PW B X 55 56 lv (st) h Q ↔ PW B X 55 17 lv (st) h Q := PW_step rfl rfl rfl rfl
theorem u_55_59 : PW B X 55 59 [some (.ref a), v1, v2, v3, v4, v5, v6, v7] (st) h Q ↔ PW B X 55 60 [some (.ref a), v1, v2, v3, v4, v5, v6, v7] (.ref a :: st) h Q := PW_step rfl rfl rfl rfl
theorem u_55_59n : PW B X 55 59 [some .null, v1, v2, v3, v4, v5, v6, v7] (st) h Q ↔ PW B X 55 60 [some .null, v1, v2, v3, v4, v5, v6, v7] (.null :: st) h Q := PW_step rfl rfl rfl rfl
theorem u_55_60 : PW B X 55 60 lv (.ref a :: st) h Q ↔ (pm_w st ≤ 8 ∧ pm_io B h a 5 = true ∧ PW B X 45 0 [some (.ref a), none] [] h (fun r h' => PW B X 55 63 lv (r.toList ++ st) h' Q)) := PW_cv (y := 45) (as := []) (rest := st) rfl rfl rfl rfl rfl ⟨Nat.le_of_ble_eq_true rfl, Nat.le_of_ble_eq_true rfl, Nat.le_of_ble_eq_true rfl⟩
theorem u_55_63 : PW B X 55 63 lv ([]) h Q ↔ Q none h := PW_ret rfl rfl
-- 58 Natural_putProduct
theorem u_58_0 : PW B X 58 0 [some (.ref a), v1, v2, v3, v4, v5, v6, v7, v8] (st) h Q ↔ PW B X 58 1 [some (.ref a), v1, v2, v3, v4, v5, v6, v7, v8] (.ref a :: st) h Q := PW_step rfl rfl rfl rfl
theorem u_58_0n : PW B X 58 0 [some .null, v1, v2, v3, v4, v5, v6, v7, v8] (st) h Q ↔ PW B X 58 1 [some .null, v1, v2, v3, v4, v5, v6, v7, v8] (.null :: st) h Q := PW_step rfl rfl rfl rfl
theorem u_58_1 : PW B X 58 1 [v0, some (.ref a), v2, v3, v4, v5, v6, v7, v8] (st) h Q ↔ PW B X 58 2 [v0, some (.ref a), v2, v3, v4, v5, v6, v7, v8] (.ref a :: st) h Q := PW_step rfl rfl rfl rfl
theorem u_58_1n : PW B X 58 1 [v0, some .null, v2, v3, v4, v5, v6, v7, v8] (st) h Q ↔ PW B X 58 2 [v0, some .null, v2, v3, v4, v5, v6, v7, v8] (.null :: st) h Q := PW_step rfl rfl rfl rfl
theorem u_58_2 : PW B X 58 2 lv (.ref a :: st) h Q ↔ pm_O (pm_gf (pm_at B h a) 5 1) (fun v => PW B X 58 5 lv (v :: st) h Q) := PW_getf rfl rfl
theorem u_58_5 : PW B X 58 5 [v0, v1, some (.ref a), v3, v4, v5, v6, v7, v8] (st) h Q ↔ PW B X 58 6 [v0, v1, some (.ref a), v3, v4, v5, v6, v7, v8] (.ref a :: st) h Q := PW_step rfl rfl rfl rfl
theorem u_58_5n : PW B X 58 5 [v0, v1, some .null, v3, v4, v5, v6, v7, v8] (st) h Q ↔ PW B X 58 6 [v0, v1, some .null, v3, v4, v5, v6, v7, v8] (.null :: st) h Q := PW_step rfl rfl rfl rfl
theorem u_58_6 : PW B X 58 6 lv (.ref a :: st) h Q ↔ pm_O (pm_gf (pm_at B h a) 5 1) (fun v => PW B X 58 9 lv (v :: st) h Q) := PW_getf rfl rfl
theorem u_58_9 : PW B X 58 9 lv (.int y :: .int x :: st) h Q ↔ PW B X 58 10 lv (.int (x + y) :: st) h Q := PW_step rfl rfl rfl rfl
theorem u_58_10 : PW B X 58 10 lv (st) h Q ↔ PW B X 58 12 lv (.int 12 :: st) h Q := PW_step rfl rfl rfl rfl
theorem u_58_12 : PW B X 58 12 lv (.int y :: .int x :: st) h Q ↔ (pm_w st ≤ 8 ∧ PW B X 58 15 lv (.int (if y < x then y else x) :: st) h Q) := PW_math rfl rfl rfl rfl
theorem u_58_15 : PW B X 58 15 lv (v :: .ref a :: st) h Q ↔ pm_O (pm_pf (pm_at B h a) 5 1 v) (fun e => PW B X 58 18 lv (st) (pm_set B h a e) Q) := PW_putf rfl rfl
theorem u_58_18 : PW B X 58 18 lv (st) h Q ↔ PW B X 58 19 lv (.int 0 :: st) h Q := PW_step rfl rfl rfl rfl
theorem u_58_19 : PW B X 58 19 [v0, v1, v2, v3, v4, v5, v6, v7, v8] (.int x :: st) h Q ↔ PW B X 58 20 [v0, v1, pm_c v2, some (.int x), v4, v5, v6, v7, v8] (st) h Q := PW_step rfl rfl rfl rfl
theorem u_58_20 : PW B X 58 20 [v0, v1, v2, some (.int x), v4, v5, v6, v7, v8] (st) h Q ↔ PW B X 58 21 [v0, v1, v2, some (.int x), v4, v5, v6, v7, v8] (.int x :: st) h Q := PW_step rfl rfl rfl rfl
theorem u_58_21 : PW B X 58 21 [some (.ref a), v1, v2, v3, v4, v5, v6, v7, v8] (st) h Q ↔ PW B X 58 22 [some (.ref a), v1, v2, v3, v4, v5, v6, v7, v8] (.ref a :: st) h Q := PW_step rfl rfl rfl rfl
theorem u_58_21n : PW B X 58 21 [some .null, v1, v2, v3, v4, v5, v6, v7, v8] (st) h Q ↔ PW B X 58 22 [some .null, v1, v2, v3, v4, v5, v6, v7, v8] (.null :: st) h Q := PW_step rfl rfl rfl rfl
theorem u_58_22 : PW B X 58 22 lv (.ref a :: st) h Q ↔ pm_O (pm_gf (pm_at B h a) 5 1) (fun v => PW B X 58 25 lv (v :: st) h Q) := PW_getf rfl rfl
theorem u_58_25 : PW B X 58 25 lv (.int y :: .int x :: st) h Q ↔ (if y ≤ x then PW B X 58 41 lv (st) h Q else PW B X 58 28 lv (st) h Q) := PW_icmp rfl rfl pm_c_ge
theorem u_58_28 : PW B X 58 28 [some (.ref a), v1, v2, v3, v4, v5, v6, v7, v8] (st) h Q ↔ PW B X 58 29 [some (.ref a), v1, v2, v3, v4, v5, v6, v7, v8] (.ref a :: st) h Q := PW_step rfl rfl rfl rfl
theorem u_58_28n : PW B X 58 28 [some .null, v1, v2, v3, v4, v5, v6, v7, v8] (st) h Q ↔ PW B X 58 29 [some .null, v1, v2, v3, v4, v5, v6, v7, v8] (.null :: st) h Q := PW_step rfl rfl rfl rfl
theorem u_58_29 : PW B X 58 29 lv (.ref a :: st) h Q ↔ pm_O (pm_gf (pm_at B h a) 5 0) (fun v => PW B X 58 32 lv (v :: st) h Q) := PW_getf rfl rfl
theorem u_58_32 : PW B X 58 32 [v0, v1, v2, some (.int x), v4, v5, v6, v7, v8] (st) h Q ↔ PW B X 58 33 [v0, v1, v2, some (.int x), v4, v5, v6, v7, v8] (.int x :: st) h Q := PW_step rfl rfl rfl rfl
theorem u_58_33 : PW B X 58 33 lv (st) h Q ↔ PW B X 58 34 lv (.long 0 :: st) h Q := PW_step rfl rfl rfl rfl
theorem u_58_34 : PW B X 58 34 lv (.long z :: .int x :: .ref a :: st) h Q ↔ pm_O (pm_stl (pm_at B h a) x z) (fun e => PW B X 58 35 lv (st) (pm_set B h a e) Q) := PW_last rfl
theorem u_58_35 : PW B X 58 35 [v0, v1, v2, some (.int x), v4, v5, v6, v7, v8] (st) h Q ↔ PW B X 58 38 [v0, v1, pm_c v2, some (.int (x + 1)), v4, v5, v6, v7, v8] (st) h Q := PW_step rfl rfl rfl rfl
theorem u_58_38 : PW B X 58 38 lv (st) h Q ↔ PW B X 58 20 lv (st) h Q := PW_step rfl rfl rfl rfl
theorem u_58_41 : PW B X 58 41 lv (st) h Q ↔ PW B X 58 42 lv (.int 0 :: st) h Q := PW_step rfl rfl rfl rfl
theorem u_58_42 : PW B X 58 42 [v0, v1, v2, v3, v4, v5, v6, v7, v8] (.int x :: st) h Q ↔ PW B X 58 43 [v0, v1, pm_c v2, some (.int x), v4, v5, v6, v7, v8] (st) h Q := PW_step rfl rfl rfl rfl
theorem u_58_43 : PW B X 58 43 [v0, v1, v2, some (.int x), v4, v5, v6, v7, v8] (st) h Q ↔ PW B X 58 44 [v0, v1, v2, some (.int x), v4, v5, v6, v7, v8] (.int x :: st) h Q := PW_step rfl rfl rfl rfl
theorem u_58_44 : PW B X 58 44 [v0, some (.ref a), v2, v3, v4, v5, v6, v7, v8] (st) h Q ↔ PW B X 58 45 [v0, some (.ref a), v2, v3, v4, v5, v6, v7, v8] (.ref a :: st) h Q := PW_step rfl rfl rfl rfl
theorem u_58_44n : PW B X 58 44 [v0, some .null, v2, v3, v4, v5, v6, v7, v8] (st) h Q ↔ PW B X 58 45 [v0, some .null, v2, v3, v4, v5, v6, v7, v8] (.null :: st) h Q := PW_step rfl rfl rfl rfl
theorem u_58_45 : PW B X 58 45 lv (.ref a :: st) h Q ↔ pm_O (pm_gf (pm_at B h a) 5 1) (fun v => PW B X 58 48 lv (v :: st) h Q) := PW_getf rfl rfl
theorem u_58_48 : PW B X 58 48 lv (.int y :: .int x :: st) h Q ↔ (if y ≤ x then PW B X 58 140 lv (st) h Q else PW B X 58 51 lv (st) h Q) := PW_icmp rfl rfl pm_c_ge
theorem u_58_51 : PW B X 58 51 lv (st) h Q ↔ PW B X 58 52 lv (.long 0 :: st) h Q := PW_step rfl rfl rfl rfl
theorem u_58_52 : PW B X 58 52 [v0, v1, v2, v3, v4, v5, v6, v7, v8] (.long z :: st) h Q ↔ PW B X 58 54 [v0, v1, v2, pm_c v3, some (.long z), none, v6, v7, v8] (st) h Q := PW_step rfl rfl rfl rfl
theorem u_58_54 : PW B X 58 54 lv (st) h Q ↔ PW B X 58 55 lv (.int 0 :: st) h Q := PW_step rfl rfl rfl rfl
theorem u_58_55 : PW B X 58 55 [v0, v1, v2, v3, v4, v5, v6, v7, v8] (.int x :: st) h Q ↔ PW B X 58 57 [v0, v1, v2, v3, v4, pm_c v5, some (.int x), v7, v8] (st) h Q := PW_step rfl rfl rfl rfl
theorem u_58_57 : PW B X 58 57 [v0, v1, v2, v3, v4, v5, some (.int x), v7, v8] (st) h Q ↔ PW B X 58 59 [v0, v1, v2, v3, v4, v5, some (.int x), v7, v8] (.int x :: st) h Q := PW_step rfl rfl rfl rfl
theorem u_58_59 : PW B X 58 59 [v0, v1, some (.ref a), v3, v4, v5, v6, v7, v8] (st) h Q ↔ PW B X 58 60 [v0, v1, some (.ref a), v3, v4, v5, v6, v7, v8] (.ref a :: st) h Q := PW_step rfl rfl rfl rfl
theorem u_58_59n : PW B X 58 59 [v0, v1, some .null, v3, v4, v5, v6, v7, v8] (st) h Q ↔ PW B X 58 60 [v0, v1, some .null, v3, v4, v5, v6, v7, v8] (.null :: st) h Q := PW_step rfl rfl rfl rfl
theorem u_58_60 : PW B X 58 60 lv (.ref a :: st) h Q ↔ pm_O (pm_gf (pm_at B h a) 5 1) (fun v => PW B X 58 63 lv (v :: st) h Q) := PW_getf rfl rfl
theorem u_58_63 : PW B X 58 63 lv (.int y :: .int x :: st) h Q ↔ (if y < x then PW B X 58 134 lv (st) h Q else PW B X 58 66 lv (st) h Q) := PW_icmp rfl rfl pm_c_gt
theorem u_58_66 : PW B X 58 66 [v0, v1, v2, some (.int x), v4, v5, v6, v7, v8] (st) h Q ↔ PW B X 58 67 [v0, v1, v2, some (.int x), v4, v5, v6, v7, v8] (.int x :: st) h Q := PW_step rfl rfl rfl rfl
theorem u_58_67 : PW B X 58 67 [v0, v1, v2, v3, v4, v5, some (.int x), v7, v8] (st) h Q ↔ PW B X 58 69 [v0, v1, v2, v3, v4, v5, some (.int x), v7, v8] (.int x :: st) h Q := PW_step rfl rfl rfl rfl
theorem u_58_69 : PW B X 58 69 lv (.int y :: .int x :: st) h Q ↔ PW B X 58 70 lv (.int (x + y) :: st) h Q := PW_step rfl rfl rfl rfl
theorem u_58_70 : PW B X 58 70 [some (.ref a), v1, v2, v3, v4, v5, v6, v7, v8] (st) h Q ↔ PW B X 58 71 [some (.ref a), v1, v2, v3, v4, v5, v6, v7, v8] (.ref a :: st) h Q := PW_step rfl rfl rfl rfl
theorem u_58_70n : PW B X 58 70 [some .null, v1, v2, v3, v4, v5, v6, v7, v8] (st) h Q ↔ PW B X 58 71 [some .null, v1, v2, v3, v4, v5, v6, v7, v8] (.null :: st) h Q := PW_step rfl rfl rfl rfl
theorem u_58_71 : PW B X 58 71 lv (.ref a :: st) h Q ↔ pm_O (pm_gf (pm_at B h a) 5 1) (fun v => PW B X 58 74 lv (v :: st) h Q) := PW_getf rfl rfl
theorem u_58_74 : PW B X 58 74 lv (.int y :: .int x :: st) h Q ↔ (if y ≤ x then PW B X 58 134 lv (st) h Q else PW B X 58 77 lv (st) h Q) := PW_icmp rfl rfl pm_c_ge
theorem u_58_77 : PW B X 58 77 [some (.ref a), v1, v2, v3, v4, v5, v6, v7, v8] (st) h Q ↔ PW B X 58 78 [some (.ref a), v1, v2, v3, v4, v5, v6, v7, v8] (.ref a :: st) h Q := PW_step rfl rfl rfl rfl
theorem u_58_77n : PW B X 58 77 [some .null, v1, v2, v3, v4, v5, v6, v7, v8] (st) h Q ↔ PW B X 58 78 [some .null, v1, v2, v3, v4, v5, v6, v7, v8] (.null :: st) h Q := PW_step rfl rfl rfl rfl
theorem u_58_78 : PW B X 58 78 lv (.ref a :: st) h Q ↔ pm_O (pm_gf (pm_at B h a) 5 0) (fun v => PW B X 58 81 lv (v :: st) h Q) := PW_getf rfl rfl
theorem u_58_81 : PW B X 58 81 [v0, v1, v2, some (.int x), v4, v5, v6, v7, v8] (st) h Q ↔ PW B X 58 82 [v0, v1, v2, some (.int x), v4, v5, v6, v7, v8] (.int x :: st) h Q := PW_step rfl rfl rfl rfl
theorem u_58_82 : PW B X 58 82 [v0, v1, v2, v3, v4, v5, some (.int x), v7, v8] (st) h Q ↔ PW B X 58 84 [v0, v1, v2, v3, v4, v5, some (.int x), v7, v8] (.int x :: st) h Q := PW_step rfl rfl rfl rfl
theorem u_58_84 : PW B X 58 84 lv (.int y :: .int x :: st) h Q ↔ PW B X 58 85 lv (.int (x + y) :: st) h Q := PW_step rfl rfl rfl rfl
theorem u_58_85 : PW B X 58 85 lv (.int x :: .ref a :: st) h Q ↔ pm_O (pm_ldl (pm_at B h a) x) (fun v => PW B X 58 86 lv (v :: st) h Q) := PW_lald rfl
theorem u_58_86 : PW B X 58 86 [v0, some (.ref a), v2, v3, v4, v5, v6, v7, v8] (st) h Q ↔ PW B X 58 87 [v0, some (.ref a), v2, v3, v4, v5, v6, v7, v8] (.ref a :: st) h Q := PW_step rfl rfl rfl rfl
theorem u_58_86n : PW B X 58 86 [v0, some .null, v2, v3, v4, v5, v6, v7, v8] (st) h Q ↔ PW B X 58 87 [v0, some .null, v2, v3, v4, v5, v6, v7, v8] (.null :: st) h Q := PW_step rfl rfl rfl rfl
theorem u_58_87 : PW B X 58 87 lv (.ref a :: st) h Q ↔ pm_O (pm_gf (pm_at B h a) 5 0) (fun v => PW B X 58 90 lv (v :: st) h Q) := PW_getf rfl rfl
theorem u_58_90 : PW B X 58 90 [v0, v1, v2, some (.int x), v4, v5, v6, v7, v8] (st) h Q ↔ PW B X 58 91 [v0, v1, v2, some (.int x), v4, v5, v6, v7, v8] (.int x :: st) h Q := PW_step rfl rfl rfl rfl
theorem u_58_91 : PW B X 58 91 lv (.int x :: .ref a :: st) h Q ↔ pm_O (pm_ldl (pm_at B h a) x) (fun v => PW B X 58 92 lv (v :: st) h Q) := PW_lald rfl
theorem u_58_92 : PW B X 58 92 [v0, v1, some (.ref a), v3, v4, v5, v6, v7, v8] (st) h Q ↔ PW B X 58 93 [v0, v1, some (.ref a), v3, v4, v5, v6, v7, v8] (.ref a :: st) h Q := PW_step rfl rfl rfl rfl
theorem u_58_92n : PW B X 58 92 [v0, v1, some .null, v3, v4, v5, v6, v7, v8] (st) h Q ↔ PW B X 58 93 [v0, v1, some .null, v3, v4, v5, v6, v7, v8] (.null :: st) h Q := PW_step rfl rfl rfl rfl
theorem u_58_93 : PW B X 58 93 [v0, v1, v2, v3, v4, v5, some (.int x), v7, v8] (st) h Q ↔ PW B X 58 95 [v0, v1, v2, v3, v4, v5, some (.int x), v7, v8] (.int x :: st) h Q := PW_step rfl rfl rfl rfl
theorem u_58_95 : PW B X 58 95 lv (.int q0 :: .ref a :: st) h Q ↔ (pm_w st ≤ 8 ∧ pm_io B h a 5 = true ∧ PW B X 48 0 [some (.ref a), some (.int q0)] [] h (fun r h' => PW B X 58 98 lv (r.toList ++ st) h' Q)) := PW_cv (y := 48) (as := [.int q0]) (rest := st) rfl rfl rfl rfl rfl ⟨Nat.le_of_ble_eq_true rfl, Nat.le_of_ble_eq_true rfl, Nat.le_of_ble_eq_true rfl⟩
theorem u_58_98 : PW B X 58 98 lv (.long w :: .long z :: st) h Q ↔ PW B X 58 99 lv (.long (z * w) :: st) h Q := PW_step rfl rfl rfl rfl
theorem u_58_99 : PW B X 58 99 lv (.long w :: .long z :: st) h Q ↔ PW B X 58 100 lv (.long (z + w) :: st) h Q := PW_step rfl rfl rfl rfl
theorem u_58_100 : PW B X 58 100 [v0, v1, v2, v3, some (.long z), v5, v6, v7, v8] (st) h Q ↔ PW B X 58 102 [v0, v1, v2, v3, some (.long z), v5, v6, v7, v8] (.long z :: st) h Q := PW_step rfl rfl rfl rfl
theorem u_58_102 : PW B X 58 102 lv (.long w :: .long z :: st) h Q ↔ PW B X 58 103 lv (.long (z + w) :: st) h Q := PW_step rfl rfl rfl rfl
theorem u_58_103 : PW B X 58 103 [v0, v1, v2, v3, v4, v5, v6, v7, v8] (.long z :: st) h Q ↔ PW B X 58 105 [v0, v1, v2, v3, v4, v5, pm_c v6, some (.long z), none] (st) h Q := PW_step rfl rfl rfl rfl
theorem u_58_105 : PW B X 58 105 [some (.ref a), v1, v2, v3, v4, v5, v6, v7, v8] (st) h Q ↔ PW B X 58 106 [some (.ref a), v1, v2, v3, v4, v5, v6, v7, v8] (.ref a :: st) h Q := PW_step rfl rfl rfl rfl
theorem u_58_105n : PW B X 58 105 [some .null, v1, v2, v3, v4, v5, v6, v7, v8] (st) h Q ↔ PW B X 58 106 [some .null, v1, v2, v3, v4, v5, v6, v7, v8] (.null :: st) h Q := PW_step rfl rfl rfl rfl
theorem u_58_106 : PW B X 58 106 lv (.ref a :: st) h Q ↔ pm_O (pm_gf (pm_at B h a) 5 0) (fun v => PW B X 58 109 lv (v :: st) h Q) := PW_getf rfl rfl
theorem u_58_109 : PW B X 58 109 [v0, v1, v2, some (.int x), v4, v5, v6, v7, v8] (st) h Q ↔ PW B X 58 110 [v0, v1, v2, some (.int x), v4, v5, v6, v7, v8] (.int x :: st) h Q := PW_step rfl rfl rfl rfl
theorem u_58_110 : PW B X 58 110 [v0, v1, v2, v3, v4, v5, some (.int x), v7, v8] (st) h Q ↔ PW B X 58 112 [v0, v1, v2, v3, v4, v5, some (.int x), v7, v8] (.int x :: st) h Q := PW_step rfl rfl rfl rfl
theorem u_58_112 : PW B X 58 112 lv (.int y :: .int x :: st) h Q ↔ PW B X 58 113 lv (.int (x + y) :: st) h Q := PW_step rfl rfl rfl rfl
theorem u_58_113 : PW B X 58 113 [v0, v1, v2, v3, v4, v5, v6, some (.long z), v8] (st) h Q ↔ PW B X 58 115 [v0, v1, v2, v3, v4, v5, v6, some (.long z), v8] (.long z :: st) h Q := PW_step rfl rfl rfl rfl
theorem u_58_115 : PW B X 58 115 lv (st) h Q ↔ PW B X 58 118 lv (.long 1000000000 :: st) h Q := PW_step rfl rfl rfl rfl
theorem u_58_118 : PW B X 58 118 lv (.long w :: .long z :: st) h Q ↔ (¬ w = 0 ∧ PW B X 58 119 lv (.long (z - z / w * w) :: st) h Q) := PW_lrem rfl
theorem u_58_119 : PW B X 58 119 lv (.long z :: .int x :: .ref a :: st) h Q ↔ pm_O (pm_stl (pm_at B h a) x z) (fun e => PW B X 58 120 lv (st) (pm_set B h a e) Q) := PW_last rfl
theorem u_58_120 : PW B X 58 120 [v0, v1, v2, v3, v4, v5, v6, some (.long z), v8] (st) h Q ↔ PW B X 58 122 [v0, v1, v2, v3, v4, v5, v6, some (.long z), v8] (.long z :: st) h Q := PW_step rfl rfl rfl rfl
theorem u_58_122 : PW B X 58 122 lv (st) h Q ↔ PW B X 58 125 lv (.long 1000000000 :: st) h Q := PW_step rfl rfl rfl rfl
theorem u_58_125 : PW B X 58 125 lv (.long w :: .long z :: st) h Q ↔ (¬ w = 0 ∧ PW B X 58 126 lv (.long (z / w) :: st) h Q) := PW_ldiv rfl
theorem u_58_126 : PW B X 58 126 [v0, v1, v2, v3, v4, v5, v6, v7, v8] (.long z :: st) h Q ↔ PW B X 58 128 [v0, v1, v2, pm_c v3, some (.long z), none, v6, v7, v8] (st) h Q := PW_step rfl rfl rfl rfl
theorem u_58_128 : PW B X 58 128 [v0, v1, v2, v3, v4, v5, some (.int x), v7, v8] (st) h Q ↔ PW B X 58 131 [v0, v1, v2, v3, v4, pm_c v5, some (.int (x + 1)), v7, v8] (st) h Q := PW_step rfl rfl rfl rfl
theorem u_58_131 : PW B X 58 131 lv (st) h Q ↔ PW B X 58 57 lv (st) h Q := PW_step rfl rfl rfl rfl
theorem u_58_134 : PW B X 58 134 [v0, v1, v2, some (.int x), v4, v5, v6, v7, v8] (st) h Q ↔ PW B X 58 137 [v0, v1, pm_c v2, some (.int (x + 1)), v4, v5, v6, v7, v8] (st) h Q := PW_step rfl rfl rfl rfl
theorem u_58_137 : PW B X 58 137 lv (st) h Q ↔ PW B X 58 43 lv (st) h Q := PW_step rfl rfl rfl rfl
theorem u_58_140 : PW B X 58 140 [some (.ref a), v1, v2, v3, v4, v5, v6, v7, v8] (st) h Q ↔ PW B X 58 141 [some (.ref a), v1, v2, v3, v4, v5, v6, v7, v8] (.ref a :: st) h Q := PW_step rfl rfl rfl rfl
theorem u_58_140n : PW B X 58 140 [some .null, v1, v2, v3, v4, v5, v6, v7, v8] (st) h Q ↔ PW B X 58 141 [some .null, v1, v2, v3, v4, v5, v6, v7, v8] (.null :: st) h Q := PW_step rfl rfl rfl rfl
theorem u_58_141 : PW B X 58 141 lv (.ref a :: st) h Q ↔ (pm_w st ≤ 8 ∧ pm_io B h a 5 = true ∧ PW B X 45 0 [some (.ref a), none] [] h (fun r h' => PW B X 58 144 lv (r.toList ++ st) h' Q)) := PW_cv (y := 45) (as := []) (rest := st) rfl rfl rfl rfl rfl ⟨Nat.le_of_ble_eq_true rfl, Nat.le_of_ble_eq_true rfl, Nat.le_of_ble_eq_true rfl⟩
theorem u_58_144 : PW B X 58 144 lv ([]) h Q ↔ Q none h := PW_ret rfl rfl
-- 62 Natural_eighteenDigits
theorem u_62_0 : PW B X 62 0 [v0, some (.int x)] (st) h Q ↔ PW B X 62 1 [v0, some (.int x)] (.int x :: st) h Q := PW_step rfl rfl rfl rfl
theorem u_62_1 : PW B X 62 1 lv (.int x :: st) h Q ↔ (if x < 0 then PW B X 62 10 lv (st) h Q else PW B X 62 4 lv (st) h Q) := PW_if rfl rfl pm_c_lt
theorem u_62_4 : PW B X 62 4 [v0, some (.int x)] (st) h Q ↔ PW B X 62 5 [v0, some (.int x)] (.int x :: st) h Q := PW_step rfl rfl rfl rfl
theorem u_62_5 : PW B X 62 5 lv (st) h Q ↔ PW B X 62 7 lv (.int 6 :: st) h Q := PW_step rfl rfl rfl rfl
theorem u_62_7 : PW B X 62 7 lv (.int y :: .int x :: st) h Q ↔ (if x < y then PW B X 62 12 lv (st) h Q else PW B X 62 10 lv (st) h Q) := PW_icmp rfl rfl pm_c_lt
theorem u_62_10 : PW B X 62 10 lv (st) h Q ↔ PW B X 62 11 lv (.long 0 :: st) h Q := PW_step rfl rfl rfl rfl
theorem u_62_11 : PW B X 62 11 lv ([.long z]) h Q ↔ Q (some (.long z)) h := PW_ret rfl rfl
theorem u_62_12 : PW B X 62 12 [some (.ref a), v1] (st) h Q ↔ PW B X 62 13 [some (.ref a), v1] (.ref a :: st) h Q := PW_step rfl rfl rfl rfl
theorem u_62_12n : PW B X 62 12 [some .null, v1] (st) h Q ↔ PW B X 62 13 [some .null, v1] (.null :: st) h Q := PW_step rfl rfl rfl rfl
theorem u_62_13 : PW B X 62 13 lv (st) h Q ↔ PW B X 62 14 lv (.int 2 :: st) h Q := PW_step rfl rfl rfl rfl
theorem u_62_14 : PW B X 62 14 [v0, some (.int x)] (st) h Q ↔ PW B X 62 15 [v0, some (.int x)] (.int x :: st) h Q := PW_step rfl rfl rfl rfl
theorem u_62_15 : PW B X 62 15 lv (.int y :: .int x :: st) h Q ↔ PW B X 62 16 lv (.int (x * y) :: st) h Q := PW_step rfl rfl rfl rfl
theorem u_62_16 : PW B X 62 16 lv (.int q0 :: .ref a :: st) h Q ↔ (pm_w st ≤ 8 ∧ pm_io B h a 5 = true ∧ PW B X 48 0 [some (.ref a), some (.int q0)] [] h (fun r h' => PW B X 62 19 lv (r.toList ++ st) h' Q)) := PW_cv (y := 48) (as := [.int q0]) (rest := st) rfl rfl rfl rfl rfl ⟨Nat.le_of_ble_eq_true rfl, Nat.le_of_ble_eq_true rfl, Nat.le_of_ble_eq_true rfl⟩
theorem u_62_19 : PW B X 62 19 [some (.ref a), v1] (st) h Q ↔ PW B X 62 20 [some (.ref a), v1] (.ref a :: st) h Q := PW_step rfl rfl rfl rfl
theorem u_62_19n : PW B X 62 19 [some .null, v1] (st) h Q ↔ PW B X 62 20 [some .null, v1] (.null :: st) h Q := PW_step rfl rfl rfl rfl
theorem u_62_20 : PW B X 62 20 lv (st) h Q ↔ PW B X 62 21 lv (.int 2 :: st) h Q := PW_step rfl rfl rfl rfl
theorem u_62_21 : PW B X 62 21 [v0, some (.int x)] (st) h Q ↔ PW B X 62 22 [v0, some (.int x)] (.int x :: st) h Q := PW_step rfl rfl rfl rfl
theorem u_62_22 : PW B X 62 22 lv (.int y :: .int x :: st) h Q ↔ PW B X 62 23 lv (.int (x * y) :: st) h Q := PW_step rfl rfl rfl rfl
theorem u_62_23 : PW B X 62 23 lv (st) h Q ↔ PW B X 62 24 lv (.int 1 :: st) h Q := PW_step rfl rfl rfl rfl
theorem u_62_24 : PW B X 62 24 lv (.int y :: .int x :: st) h Q ↔ PW B X 62 25 lv (.int (x + y) :: st) h Q := PW_step rfl rfl rfl rfl
theorem u_62_25 : PW B X 62 25 lv (.int q0 :: .ref a :: st) h Q ↔ (pm_w st ≤ 8 ∧ pm_io B h a 5 = true ∧ PW B X 48 0 [some (.ref a), some (.int q0)] [] h (fun r h' => PW B X 62 28 lv (r.toList ++ st) h' Q)) := PW_cv (y := 48) (as := [.int q0]) (rest := st) rfl rfl rfl rfl rfl ⟨Nat.le_of_ble_eq_true rfl, Nat.le_of_ble_eq_true rfl, Nat.le_of_ble_eq_true rfl⟩
theorem u_62_28 : PW B X 62 28 lv (st) h Q ↔ PW B X 62 31 lv (.long 1000000000 :: st) h Q := PW_step rfl rfl rfl rfl
theorem u_62_31 : PW B X 62 31 lv (.long w :: .long z :: st) h Q ↔ PW B X 62 32 lv (.long (z * w) :: st) h Q := PW_step rfl rfl rfl rfl
theorem u_62_32 : PW B X 62 32 lv (.long w :: .long z :: st) h Q ↔ PW B X 62 33 lv (.long (z + w) :: st) h Q := PW_step rfl rfl rfl rfl
theorem u_62_33 : PW B X 62 33 lv ([.long z]) h Q ↔ Q (some (.long z)) h := PW_ret rfl rfl
end

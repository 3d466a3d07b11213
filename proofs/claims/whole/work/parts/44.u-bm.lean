/-! RULES OF 44.u-bm, an instruction each, written by ugen.py: do not edit. -/
section
variable {B : Nat} {X : pm_X} {lv : pm_L} {st : List Value} {h : pm_H} {Q : Option Value → pm_H → Prop} {v : Value} {x y : Int32} {z w : Int64} {a b : Nat}
variable {v0 v1 v2 v3 v4 v5 v6 v7 v8 v9 v10 v11 v12 v13 v14 v15 : Option Value} {q0 q1 q2 q3 q4 q5 : Int32} {p0 p1 p2 p3 p4 p5 : Int64} {r0 r1 r2 r3 r4 r5 : Nat}
-- 0 BM_init
theorem u_0_0 : PW B X 0 0 [some (.ref a)] (st) h Q ↔ PW B X 0 1 [some (.ref a)] (.ref a :: st) h Q := PW_step rfl rfl rfl rfl
theorem u_0_0n : PW B X 0 0 [some .null] (st) h Q ↔ PW B X 0 1 [some .null] (.null :: st) h Q := PW_step rfl rfl rfl rfl
theorem u_0_1 : PW B X 0 1 lv (.ref a :: st) h Q ↔ (pm_w st ≤ 8 ∧ PW B X 0 4 lv (st) h Q) := PW_obj rfl rfl rfl
theorem u_0_4 : PW B X 0 4 [some (.ref a)] (st) h Q ↔ PW B X 0 5 [some (.ref a)] (.ref a :: st) h Q := PW_step rfl rfl rfl rfl
theorem u_0_4n : PW B X 0 4 [some .null] (st) h Q ↔ PW B X 0 5 [some .null] (.null :: st) h Q := PW_step rfl rfl rfl rfl
theorem u_0_5 : PW B X 0 5 lv (st) h Q ↔ PW B X 0 7 lv (.int 10 :: st) h Q := PW_step rfl rfl rfl rfl
theorem u_0_7 : PW B X 0 7 lv (.int 10 :: st) h Q ↔ PW B X 0 10 lv (.ref (B + h.length) :: st) (h ++ [.inl (4, 10, .inr (.inr (.inr (.inr (fun _ => none)))))]) Q := PW_step rfl rfl rfl rfl
theorem u_0_10 : PW B X 0 10 lv (v :: .ref a :: st) h Q ↔ pm_O (pm_pf (pm_at B h a) 0 0 v) (fun e => PW B X 0 13 lv (st) (pm_set B h a e) Q) := PW_putf rfl rfl
theorem u_0_13 : PW B X 0 13 [some (.ref a)] (st) h Q ↔ PW B X 0 14 [some (.ref a)] (.ref a :: st) h Q := PW_step rfl rfl rfl rfl
theorem u_0_13n : PW B X 0 13 [some .null] (st) h Q ↔ PW B X 0 14 [some .null] (.null :: st) h Q := PW_step rfl rfl rfl rfl
theorem u_0_14 : PW B X 0 14 lv (st) h Q ↔ PW B X 0 17 lv (.ref (B + h.length) :: st) (h ++ [.inr (1, [.long 0, .long 0, .int 0, .int 0])]) Q := PW_step rfl rfl rfl rfl
theorem u_0_17 : PW B X 0 17 lv (.ref a :: st) h Q ↔ PW B X 0 18 lv (.ref a :: .ref a :: st) h Q := PW_step rfl rfl rfl rfl
theorem u_0_17i : PW B X 0 17 lv (.int x :: st) h Q ↔ PW B X 0 18 lv (.int x :: .int x :: st) h Q := PW_step rfl rfl rfl rfl
theorem u_0_18 : PW B X 0 18 lv (.ref a :: st) h Q ↔ (pm_w st ≤ 8 ∧ PW B X 1 0 [some (.ref a)] [] h (fun r h' => PW B X 0 21 lv (r.toList ++ st) h' Q)) := PW_ci (y := 1) (as := []) (rest := st) rfl rfl rfl rfl rfl ⟨Nat.le_of_ble_eq_true rfl, Nat.le_of_ble_eq_true rfl, Nat.le_of_ble_eq_true rfl⟩
theorem u_0_21 : PW B X 0 21 lv (v :: .ref a :: st) h Q ↔ pm_O (pm_pf (pm_at B h a) 0 2 v) (fun e => PW B X 0 24 lv (st) (pm_set B h a e) Q) := PW_putf rfl rfl
theorem u_0_24 : PW B X 0 24 [some (.ref a)] (st) h Q ↔ PW B X 0 25 [some (.ref a)] (.ref a :: st) h Q := PW_step rfl rfl rfl rfl
theorem u_0_24n : PW B X 0 24 [some .null] (st) h Q ↔ PW B X 0 25 [some .null] (.null :: st) h Q := PW_step rfl rfl rfl rfl
theorem u_0_25 : PW B X 0 25 lv (st) h Q ↔ PW B X 0 28 lv (.ref (B + h.length) :: st) (h ++ [.inr (2, [.null, .int 0, .int 0])]) Q := PW_step rfl rfl rfl rfl
theorem u_0_28 : PW B X 0 28 lv (.ref a :: st) h Q ↔ PW B X 0 29 lv (.ref a :: .ref a :: st) h Q := PW_step rfl rfl rfl rfl
theorem u_0_28i : PW B X 0 28 lv (.int x :: st) h Q ↔ PW B X 0 29 lv (.int x :: .int x :: st) h Q := PW_step rfl rfl rfl rfl
theorem u_0_29 : PW B X 0 29 lv (.ref a :: st) h Q ↔ (pm_w st ≤ 8 ∧ PW B X 2 0 [some (.ref a)] [] h (fun r h' => PW B X 0 32 lv (r.toList ++ st) h' Q)) := PW_ci (y := 2) (as := []) (rest := st) rfl rfl rfl rfl rfl ⟨Nat.le_of_ble_eq_true rfl, Nat.le_of_ble_eq_true rfl, Nat.le_of_ble_eq_true rfl⟩
theorem u_0_32 : PW B X 0 32 lv (v :: .ref a :: st) h Q ↔ pm_O (pm_pf (pm_at B h a) 0 3 v) (fun e => PW B X 0 35 lv (st) (pm_set B h a e) Q) := PW_putf rfl rfl
theorem u_0_35 : PW B X 0 35 [some (.ref a)] (st) h Q ↔ PW B X 0 36 [some (.ref a)] (.ref a :: st) h Q := PW_step rfl rfl rfl rfl
theorem u_0_35n : PW B X 0 35 [some .null] (st) h Q ↔ PW B X 0 36 [some .null] (.null :: st) h Q := PW_step rfl rfl rfl rfl
theorem u_0_36 : PW B X 0 36 lv (st) h Q ↔ PW B X 0 39 lv (.ref (B + h.length) :: st) (h ++ [.inr (3, [.null, .null, .null, .null, .null, .int 0, .int 0])]) Q := PW_step rfl rfl rfl rfl
theorem u_0_39 : PW B X 0 39 lv (.ref a :: st) h Q ↔ PW B X 0 40 lv (.ref a :: .ref a :: st) h Q := PW_step rfl rfl rfl rfl
theorem u_0_39i : PW B X 0 39 lv (.int x :: st) h Q ↔ PW B X 0 40 lv (.int x :: .int x :: st) h Q := PW_step rfl rfl rfl rfl
theorem u_0_40 : PW B X 0 40 lv (.ref a :: st) h Q ↔ (pm_w st ≤ 8 ∧ PW B X 3 0 [some (.ref a)] [] h (fun r h' => PW B X 0 43 lv (r.toList ++ st) h' Q)) := PW_ci (y := 3) (as := []) (rest := st) rfl rfl rfl rfl rfl ⟨Nat.le_of_ble_eq_true rfl, Nat.le_of_ble_eq_true rfl, Nat.le_of_ble_eq_true rfl⟩
theorem u_0_43 : PW B X 0 43 lv (v :: .ref a :: st) h Q ↔ pm_O (pm_pf (pm_at B h a) 0 4 v) (fun e => PW B X 0 46 lv (st) (pm_set B h a e) Q) := PW_putf rfl rfl
theorem u_0_46 : PW B X 0 46 [some (.ref a)] (st) h Q ↔ PW B X 0 47 [some (.ref a)] (.ref a :: st) h Q := PW_step rfl rfl rfl rfl
theorem u_0_46n : PW B X 0 46 [some .null] (st) h Q ↔ PW B X 0 47 [some .null] (.null :: st) h Q := PW_step rfl rfl rfl rfl
theorem u_0_47 : PW B X 0 47 lv (st) h Q ↔ PW B X 0 50 lv (.ref (B + h.length) :: st) (h ++ [.inr (3, [.null, .null, .null, .null, .null, .int 0, .int 0])]) Q := PW_step rfl rfl rfl rfl
theorem u_0_50 : PW B X 0 50 lv (.ref a :: st) h Q ↔ PW B X 0 51 lv (.ref a :: .ref a :: st) h Q := PW_step rfl rfl rfl rfl
theorem u_0_50i : PW B X 0 50 lv (.int x :: st) h Q ↔ PW B X 0 51 lv (.int x :: .int x :: st) h Q := PW_step rfl rfl rfl rfl
theorem u_0_51 : PW B X 0 51 lv (.ref a :: st) h Q ↔ (pm_w st ≤ 8 ∧ PW B X 3 0 [some (.ref a)] [] h (fun r h' => PW B X 0 54 lv (r.toList ++ st) h' Q)) := PW_ci (y := 3) (as := []) (rest := st) rfl rfl rfl rfl rfl ⟨Nat.le_of_ble_eq_true rfl, Nat.le_of_ble_eq_true rfl, Nat.le_of_ble_eq_true rfl⟩
theorem u_0_54 : PW B X 0 54 lv (v :: .ref a :: st) h Q ↔ pm_O (pm_pf (pm_at B h a) 0 5 v) (fun e => PW B X 0 57 lv (st) (pm_set B h a e) Q) := PW_putf rfl rfl
theorem u_0_57 : PW B X 0 57 [some (.ref a)] (st) h Q ↔ PW B X 0 58 [some (.ref a)] (.ref a :: st) h Q := PW_step rfl rfl rfl rfl
theorem u_0_57n : PW B X 0 57 [some .null] (st) h Q ↔ PW B X 0 58 [some .null] (.null :: st) h Q := PW_step rfl rfl rfl rfl
theorem u_0_58 : PW B X 0 58 lv (st) h Q ↔ PW B X 0 61 lv (.ref (B + h.length) :: st) (h ++ [.inr (4, [.null, .null])]) Q := PW_step rfl rfl rfl rfl
theorem u_0_61 : PW B X 0 61 lv (.ref a :: st) h Q ↔ PW B X 0 62 lv (.ref a :: .ref a :: st) h Q := PW_step rfl rfl rfl rfl
theorem u_0_61i : PW B X 0 61 lv (.int x :: st) h Q ↔ PW B X 0 62 lv (.int x :: .int x :: st) h Q := PW_step rfl rfl rfl rfl
theorem u_0_62 : PW B X 0 62 lv (.ref a :: st) h Q ↔ (pm_w st ≤ 8 ∧ PW B X 4 0 [some (.ref a)] [] h (fun r h' => PW B X 0 65 lv (r.toList ++ st) h' Q)) := PW_ci (y := 4) (as := []) (rest := st) rfl rfl rfl rfl rfl ⟨Nat.le_of_ble_eq_true rfl, Nat.le_of_ble_eq_true rfl, Nat.le_of_ble_eq_true rfl⟩
theorem u_0_65 : PW B X 0 65 lv (v :: .ref a :: st) h Q ↔ pm_O (pm_pf (pm_at B h a) 0 6 v) (fun e => PW B X 0 68 lv (st) (pm_set B h a e) Q) := PW_putf rfl rfl
theorem u_0_68 : PW B X 0 68 [some (.ref a)] (st) h Q ↔ PW B X 0 69 [some (.ref a)] (.ref a :: st) h Q := PW_step rfl rfl rfl rfl
theorem u_0_68n : PW B X 0 68 [some .null] (st) h Q ↔ PW B X 0 69 [some .null] (.null :: st) h Q := PW_step rfl rfl rfl rfl
theorem u_0_69 : PW B X 0 69 lv (st) h Q ↔ PW B X 0 72 lv (.ref (B + h.length) :: st) (h ++ [.inr (6, [.null, .null, .null, .null, .null, .int 0, .int 0])]) Q := PW_step rfl rfl rfl rfl
theorem u_0_72 : PW B X 0 72 lv (.ref a :: st) h Q ↔ PW B X 0 73 lv (.ref a :: .ref a :: st) h Q := PW_step rfl rfl rfl rfl
theorem u_0_72i : PW B X 0 72 lv (.int x :: st) h Q ↔ PW B X 0 73 lv (.int x :: .int x :: st) h Q := PW_step rfl rfl rfl rfl
theorem u_0_73 : PW B X 0 73 [some (.ref a)] (st) h Q ↔ PW B X 0 74 [some (.ref a)] (.ref a :: st) h Q := PW_step rfl rfl rfl rfl
theorem u_0_73n : PW B X 0 73 [some .null] (st) h Q ↔ PW B X 0 74 [some .null] (.null :: st) h Q := PW_step rfl rfl rfl rfl
theorem u_0_74 : PW B X 0 74 lv (.ref a :: st) h Q ↔ pm_O (pm_gf (pm_at B h a) 0 6) (fun v => PW B X 0 77 lv (v :: st) h Q) := PW_getf rfl rfl
theorem u_0_77 : PW B X 0 77 lv (.ref r0 :: .ref a :: st) h Q ↔ (pm_w st ≤ 8 ∧ PW B X 6 0 [some (.ref a), some (.ref r0)] [] h (fun r h' => PW B X 0 80 lv (r.toList ++ st) h' Q)) := PW_ci (y := 6) (as := [.ref r0]) (rest := st) rfl rfl rfl rfl rfl ⟨Nat.le_of_ble_eq_true rfl, Nat.le_of_ble_eq_true rfl, Nat.le_of_ble_eq_true rfl⟩
theorem u_0_80 : PW B X 0 80 lv (v :: .ref a :: st) h Q ↔ pm_O (pm_pf (pm_at B h a) 0 7 v) (fun e => PW B X 0 83 lv (st) (pm_set B h a e) Q) := PW_putf rfl rfl
theorem u_0_83 : PW B X 0 83 [some (.ref a)] (st) h Q ↔ PW B X 0 84 [some (.ref a)] (.ref a :: st) h Q := PW_step rfl rfl rfl rfl
theorem u_0_83n : PW B X 0 83 [some .null] (st) h Q ↔ PW B X 0 84 [some .null] (.null :: st) h Q := PW_step rfl rfl rfl rfl
theorem u_0_84 : PW B X 0 84 lv (st) h Q ↔ PW B X 0 87 lv (.ref (B + h.length) :: st) (h ++ [.inr (8, [.int 0, .null, .null])]) Q := PW_step rfl rfl rfl rfl
theorem u_0_87 : PW B X 0 87 lv (.ref a :: st) h Q ↔ PW B X 0 88 lv (.ref a :: .ref a :: st) h Q := PW_step rfl rfl rfl rfl
theorem u_0_87i : PW B X 0 87 lv (.int x :: st) h Q ↔ PW B X 0 88 lv (.int x :: .int x :: st) h Q := PW_step rfl rfl rfl rfl
theorem u_0_88 : PW B X 0 88 lv (.ref a :: st) h Q ↔ (pm_w st ≤ 8 ∧ PW B X 8 0 [some (.ref a)] [] h (fun r h' => PW B X 0 91 lv (r.toList ++ st) h' Q)) := PW_ci (y := 8) (as := []) (rest := st) rfl rfl rfl rfl rfl ⟨Nat.le_of_ble_eq_true rfl, Nat.le_of_ble_eq_true rfl, Nat.le_of_ble_eq_true rfl⟩
theorem u_0_91 : PW B X 0 91 lv (v :: .ref a :: st) h Q ↔ pm_O (pm_pf (pm_at B h a) 0 8 v) (fun e => PW B X 0 94 lv (st) (pm_set B h a e) Q) := PW_putf rfl rfl
theorem u_0_94 : PW B X 0 94 [some (.ref a)] (st) h Q ↔ PW B X 0 95 [some (.ref a)] (.ref a :: st) h Q := PW_step rfl rfl rfl rfl
theorem u_0_94n : PW B X 0 94 [some .null] (st) h Q ↔ PW B X 0 95 [some .null] (.null :: st) h Q := PW_step rfl rfl rfl rfl
theorem u_0_95 : PW B X 0 95 lv (st) h Q ↔ PW B X 0 96 lv (.int 3 :: st) h Q := PW_step rfl rfl rfl rfl
theorem u_0_96 : PW B X 0 96 lv (.int 3 :: st) h Q ↔ PW B X 0 99 lv (.ref (B + h.length) :: st) (h ++ [.inl (5, 3, .inr (.inr (.inr (.inr (fun _ => none)))))]) Q := PW_step rfl rfl rfl rfl
theorem u_0_99 : PW B X 0 99 lv (.ref a :: st) h Q ↔ PW B X 0 100 lv (.ref a :: .ref a :: st) h Q := PW_step rfl rfl rfl rfl
theorem u_0_99i : PW B X 0 99 lv (.int x :: st) h Q ↔ PW B X 0 100 lv (.int x :: .int x :: st) h Q := PW_step rfl rfl rfl rfl
theorem u_0_100 : PW B X 0 100 lv (st) h Q ↔ PW B X 0 101 lv (.int 0 :: st) h Q := PW_step rfl rfl rfl rfl
theorem u_0_101 : PW B X 0 101 lv (st) h Q ↔ PW B X 0 104 lv (.ref (B + h.length) :: st) (h ++ [.inr (8, [.int 0, .null, .null])]) Q := PW_step rfl rfl rfl rfl
theorem u_0_104 : PW B X 0 104 lv (.ref a :: st) h Q ↔ PW B X 0 105 lv (.ref a :: .ref a :: st) h Q := PW_step rfl rfl rfl rfl
theorem u_0_104i : PW B X 0 104 lv (.int x :: st) h Q ↔ PW B X 0 105 lv (.int x :: .int x :: st) h Q := PW_step rfl rfl rfl rfl
theorem u_0_105 : PW B X 0 105 lv (.ref a :: st) h Q ↔ (pm_w st ≤ 8 ∧ PW B X 8 0 [some (.ref a)] [] h (fun r h' => PW B X 0 108 lv (r.toList ++ st) h' Q)) := PW_ci (y := 8) (as := []) (rest := st) rfl rfl rfl rfl rfl ⟨Nat.le_of_ble_eq_true rfl, Nat.le_of_ble_eq_true rfl, Nat.le_of_ble_eq_true rfl⟩
theorem u_0_108 : PW B X 0 108 lv (.ref b :: .int x :: .ref a :: st) h Q ↔ pm_O (pm_sta (pm_at B h a) x b (pm_at B h b)) (fun e => PW B X 0 109 lv (st) (pm_set B h a e) Q) := PW_aast rfl
theorem u_0_109 : PW B X 0 109 lv (.ref a :: st) h Q ↔ PW B X 0 110 lv (.ref a :: .ref a :: st) h Q := PW_step rfl rfl rfl rfl
theorem u_0_109i : PW B X 0 109 lv (.int x :: st) h Q ↔ PW B X 0 110 lv (.int x :: .int x :: st) h Q := PW_step rfl rfl rfl rfl
theorem u_0_110 : PW B X 0 110 lv (st) h Q ↔ PW B X 0 111 lv (.int 1 :: st) h Q := PW_step rfl rfl rfl rfl
theorem u_0_111 : PW B X 0 111 lv (st) h Q ↔ PW B X 0 114 lv (.ref (B + h.length) :: st) (h ++ [.inr (8, [.int 0, .null, .null])]) Q := PW_step rfl rfl rfl rfl
theorem u_0_114 : PW B X 0 114 lv (.ref a :: st) h Q ↔ PW B X 0 115 lv (.ref a :: .ref a :: st) h Q := PW_step rfl rfl rfl rfl
theorem u_0_114i : PW B X 0 114 lv (.int x :: st) h Q ↔ PW B X 0 115 lv (.int x :: .int x :: st) h Q := PW_step rfl rfl rfl rfl
theorem u_0_115 : PW B X 0 115 lv (.ref a :: st) h Q ↔ (pm_w st ≤ 8 ∧ PW B X 8 0 [some (.ref a)] [] h (fun r h' => PW B X 0 118 lv (r.toList ++ st) h' Q)) := PW_ci (y := 8) (as := []) (rest := st) rfl rfl rfl rfl rfl ⟨Nat.le_of_ble_eq_true rfl, Nat.le_of_ble_eq_true rfl, Nat.le_of_ble_eq_true rfl⟩
theorem u_0_118 : PW B X 0 118 lv (.ref b :: .int x :: .ref a :: st) h Q ↔ pm_O (pm_sta (pm_at B h a) x b (pm_at B h b)) (fun e => PW B X 0 119 lv (st) (pm_set B h a e) Q) := PW_aast rfl
theorem u_0_119 : PW B X 0 119 lv (.ref a :: st) h Q ↔ PW B X 0 120 lv (.ref a :: .ref a :: st) h Q := PW_step rfl rfl rfl rfl
theorem u_0_119i : PW B X 0 119 lv (.int x :: st) h Q ↔ PW B X 0 120 lv (.int x :: .int x :: st) h Q := PW_step rfl rfl rfl rfl
theorem u_0_120 : PW B X 0 120 lv (st) h Q ↔ PW B X 0 121 lv (.int 2 :: st) h Q := PW_step rfl rfl rfl rfl
theorem u_0_121 : PW B X 0 121 lv (st) h Q ↔ PW B X 0 124 lv (.ref (B + h.length) :: st) (h ++ [.inr (8, [.int 0, .null, .null])]) Q := PW_step rfl rfl rfl rfl
theorem u_0_124 : PW B X 0 124 lv (.ref a :: st) h Q ↔ PW B X 0 125 lv (.ref a :: .ref a :: st) h Q := PW_step rfl rfl rfl rfl
theorem u_0_124i : PW B X 0 124 lv (.int x :: st) h Q ↔ PW B X 0 125 lv (.int x :: .int x :: st) h Q := PW_step rfl rfl rfl rfl
theorem u_0_125 : PW B X 0 125 lv (.ref a :: st) h Q ↔ (pm_w st ≤ 8 ∧ PW B X 8 0 [some (.ref a)] [] h (fun r h' => PW B X 0 128 lv (r.toList ++ st) h' Q)) := PW_ci (y := 8) (as := []) (rest := st) rfl rfl rfl rfl rfl ⟨Nat.le_of_ble_eq_true rfl, Nat.le_of_ble_eq_true rfl, Nat.le_of_ble_eq_true rfl⟩
theorem u_0_128 : PW B X 0 128 lv (.ref b :: .int x :: .ref a :: st) h Q ↔ pm_O (pm_sta (pm_at B h a) x b (pm_at B h b)) (fun e => PW B X 0 129 lv (st) (pm_set B h a e) Q) := PW_aast rfl
theorem u_0_129 : PW B X 0 129 lv (v :: .ref a :: st) h Q ↔ pm_O (pm_pf (pm_at B h a) 0 9 v) (fun e => PW B X 0 132 lv (st) (pm_set B h a e) Q) := PW_putf rfl rfl
theorem u_0_132 : PW B X 0 132 [some (.ref a)] (st) h Q ↔ PW B X 0 133 [some (.ref a)] (.ref a :: st) h Q := PW_step rfl rfl rfl rfl
theorem u_0_132n : PW B X 0 132 [some .null] (st) h Q ↔ PW B X 0 133 [some .null] (.null :: st) h Q := PW_step rfl rfl rfl rfl
theorem u_0_133 : PW B X 0 133 lv (st) h Q ↔ PW B X 0 135 lv (.int 12 :: st) h Q := PW_step rfl rfl rfl rfl
theorem u_0_135 : PW B X 0 135 lv (.int 12 :: st) h Q ↔ PW B X 0 137 lv (.ref (B + h.length) :: st) (h ++ [.inl (0, 12, .inl (fun _ => 0))]) Q := PW_step rfl rfl rfl rfl
theorem u_0_137 : PW B X 0 137 lv (v :: .ref a :: st) h Q ↔ pm_O (pm_pf (pm_at B h a) 0 13 v) (fun e => PW B X 0 140 lv (st) (pm_set B h a e) Q) := PW_putf rfl rfl
theorem u_0_140 : PW B X 0 140 [some (.ref a)] (st) h Q ↔ PW B X 0 141 [some (.ref a)] (.ref a :: st) h Q := PW_step rfl rfl rfl rfl
theorem u_0_140n : PW B X 0 140 [some .null] (st) h Q ↔ PW B X 0 141 [some .null] (.null :: st) h Q := PW_step rfl rfl rfl rfl
theorem u_0_141 : PW B X 0 141 lv (st) h Q ↔ PW B X 0 143 lv (.int 12 :: st) h Q := PW_step rfl rfl rfl rfl
theorem u_0_143 : PW B X 0 143 lv (.int 12 :: st) h Q ↔ PW B X 0 145 lv (.ref (B + h.length) :: st) (h ++ [.inl (0, 12, .inl (fun _ => 0))]) Q := PW_step rfl rfl rfl rfl
theorem u_0_145 : PW B X 0 145 lv (v :: .ref a :: st) h Q ↔ pm_O (pm_pf (pm_at B h a) 0 14 v) (fun e => PW B X 0 148 lv (st) (pm_set B h a e) Q) := PW_putf rfl rfl
theorem u_0_148 : PW B X 0 148 [some (.ref a)] (st) h Q ↔ PW B X 0 149 [some (.ref a)] (.ref a :: st) h Q := PW_step rfl rfl rfl rfl
theorem u_0_148n : PW B X 0 148 [some .null] (st) h Q ↔ PW B X 0 149 [some .null] (.null :: st) h Q := PW_step rfl rfl rfl rfl
theorem u_0_149 : PW B X 0 149 lv (st) h Q ↔ PW B X 0 150 lv (.int (-1) :: st) h Q := PW_step rfl rfl rfl rfl
theorem u_0_150 : PW B X 0 150 lv (v :: .ref a :: st) h Q ↔ pm_O (pm_pf (pm_at B h a) 0 18 v) (fun e => PW B X 0 153 lv (st) (pm_set B h a e) Q) := PW_putf rfl rfl
theorem u_0_153 : PW B X 0 153 lv ([]) h Q ↔ Q none h := PW_ret rfl rfl
-- 11 BM_bearing
theorem u_11_0 : PW B X 11 0 [some (.ref a), v1, v2] (st) h Q ↔ PW B X 11 1 [some (.ref a), v1, v2] (.ref a :: st) h Q := PW_step rfl rfl rfl rfl
theorem u_11_0n : PW B X 11 0 [some .null, v1, v2] (st) h Q ↔ PW B X 11 1 [some .null, v1, v2] (.null :: st) h Q := PW_step rfl rfl rfl rfl
theorem u_11_1 : PW B X 11 1 lv (.ref a :: st) h Q ↔ pm_O (pm_gf (pm_at B h a) 0 1) (fun v => PW B X 11 4 lv (v :: st) h Q) := PW_getf rfl rfl
theorem u_11_4 : PW B X 11 4 lv (st) h Q ↔ PW B X 11 6 lv (.int 10 :: st) h Q := PW_step rfl rfl rfl rfl
theorem u_11_6 : PW B X 11 6 lv (.int y :: .int x :: st) h Q ↔ (if y ≤ x then PW B X 11 31 lv (st) h Q else PW B X 11 9 lv (st) h Q) := PW_icmp rfl rfl pm_c_ge
theorem u_11_9 : PW B X 11 9 [v0, some (.int x), v2] (st) h Q ↔ PW B X 11 10 [v0, some (.int x), v2] (.int x :: st) h Q := PW_step rfl rfl rfl rfl
theorem u_11_10 : PW B X 11 10 lv (st) h Q ↔ PW B X 11 12 lv (.int (-100000) :: st) h Q := PW_step rfl rfl rfl rfl
theorem u_11_12 : PW B X 11 12 lv (st) h Q ↔ PW B X 11 14 lv (.int 100000 :: st) h Q := PW_step rfl rfl rfl rfl
theorem u_11_14 : PW B X 11 14 lv (.int q2 :: .int q1 :: .int q0 :: st) h Q ↔ (pm_w st ≤ 8 ∧ PW B X 12 0 [some (.int q0), some (.int q1), some (.int q2)] [] h (fun r h' => PW B X 11 17 lv (r.toList ++ st) h' Q)) := PW_cs (y := 12) (as := [.int q0, .int q1, .int q2]) (rest := st) rfl rfl rfl rfl rfl ⟨Nat.le_of_ble_eq_true rfl, Nat.le_of_ble_eq_true rfl, Nat.le_of_ble_eq_true rfl⟩
theorem u_11_17 : PW B X 11 17 lv (.int x :: st) h Q ↔ (if x = 0 then PW B X 11 31 lv (st) h Q else PW B X 11 20 lv (st) h Q) := PW_if rfl rfl pm_c_eq
theorem u_11_20 : PW B X 11 20 [v0, v1, some (.int x)] (st) h Q ↔ PW B X 11 21 [v0, v1, some (.int x)] (.int x :: st) h Q := PW_step rfl rfl rfl rfl
theorem u_11_21 : PW B X 11 21 lv (st) h Q ↔ PW B X 11 23 lv (.int (-100000) :: st) h Q := PW_step rfl rfl rfl rfl
theorem u_11_23 : PW B X 11 23 lv (st) h Q ↔ PW B X 11 25 lv (.int 100000 :: st) h Q := PW_step rfl rfl rfl rfl
theorem u_11_25 : PW B X 11 25 lv (.int q2 :: .int q1 :: .int q0 :: st) h Q ↔ (pm_w st ≤ 8 ∧ PW B X 12 0 [some (.int q0), some (.int q1), some (.int q2)] [] h (fun r h' => PW B X 11 28 lv (r.toList ++ st) h' Q)) := PW_cs (y := 12) (as := [.int q0, .int q1, .int q2]) (rest := st) rfl rfl rfl rfl rfl ⟨Nat.le_of_ble_eq_true rfl, Nat.le_of_ble_eq_true rfl, Nat.le_of_ble_eq_true rfl⟩
theorem u_11_28 : PW B X 11 28 lv (.int x :: st) h Q ↔ (if ¬ x = 0 then PW B X 11 33 lv (st) h Q else PW B X 11 31 lv (st) h Q) := PW_if rfl rfl pm_c_ne
theorem u_11_31 : PW B X 11 31 lv (st) h Q ↔ PW B X 11 32 lv (.int (-1) :: st) h Q := PW_step rfl rfl rfl rfl
theorem u_11_32 : PW B X 11 32 lv ([.int x]) h Q ↔ Q (some (.int x)) h := PW_ret rfl rfl
theorem u_11_33 : PW B X 11 33 [some (.ref a), v1, v2] (st) h Q ↔ PW B X 11 34 [some (.ref a), v1, v2] (.ref a :: st) h Q := PW_step rfl rfl rfl rfl
theorem u_11_33n : PW B X 11 33 [some .null, v1, v2] (st) h Q ↔ PW B X 11 34 [some .null, v1, v2] (.null :: st) h Q := PW_step rfl rfl rfl rfl
theorem u_11_34 : PW B X 11 34 lv (.ref a :: st) h Q ↔ pm_O (pm_gf (pm_at B h a) 0 0) (fun v => PW B X 11 37 lv (v :: st) h Q) := PW_getf rfl rfl
theorem u_11_37 : PW B X 11 37 [some (.ref a), v1, v2] (st) h Q ↔ PW B X 11 38 [some (.ref a), v1, v2] (.ref a :: st) h Q := PW_step rfl rfl rfl rfl
theorem u_11_37n : PW B X 11 37 [some .null, v1, v2] (st) h Q ↔ PW B X 11 38 [some .null, v1, v2] (.null :: st) h Q := PW_step rfl rfl rfl rfl
theorem u_11_38 : PW B X 11 38 lv (.ref a :: st) h Q ↔ pm_O (pm_gf (pm_at B h a) 0 1) (fun v => PW B X 11 41 lv (v :: st) h Q) := PW_getf rfl rfl
theorem u_11_41 : PW B X 11 41 lv (st) h Q ↔ PW B X 11 44 lv (.ref (B + h.length) :: st) (h ++ [.inr (9, [.int 0, .int 0, .int 0, .int 0, .null, .null, .int 0, .int 0, .int 0, .null])]) Q := PW_step rfl rfl rfl rfl
theorem u_11_44 : PW B X 11 44 lv (.ref a :: st) h Q ↔ PW B X 11 45 lv (.ref a :: .ref a :: st) h Q := PW_step rfl rfl rfl rfl
theorem u_11_44i : PW B X 11 44 lv (.int x :: st) h Q ↔ PW B X 11 45 lv (.int x :: .int x :: st) h Q := PW_step rfl rfl rfl rfl
theorem u_11_45 : PW B X 11 45 [v0, some (.int x), v2] (st) h Q ↔ PW B X 11 46 [v0, some (.int x), v2] (.int x :: st) h Q := PW_step rfl rfl rfl rfl
theorem u_11_46 : PW B X 11 46 [v0, v1, some (.int x)] (st) h Q ↔ PW B X 11 47 [v0, v1, some (.int x)] (.int x :: st) h Q := PW_step rfl rfl rfl rfl
theorem u_11_47 : PW B X 11 47 lv (.int q1 :: .int q0 :: .ref a :: st) h Q ↔ (pm_w st ≤ 8 ∧ PW B X 13 0 [some (.ref a), some (.int q0), some (.int q1), none] [] h (fun r h' => PW B X 11 50 lv (r.toList ++ st) h' Q)) := PW_ci (y := 13) (as := [.int q0, .int q1]) (rest := st) rfl rfl rfl rfl rfl ⟨Nat.le_of_ble_eq_true rfl, Nat.le_of_ble_eq_true rfl, Nat.le_of_ble_eq_true rfl⟩
theorem u_11_50 : PW B X 11 50 lv (.ref b :: .int x :: .ref a :: st) h Q ↔ pm_O (pm_sta (pm_at B h a) x b (pm_at B h b)) (fun e => PW B X 11 51 lv (st) (pm_set B h a e) Q) := PW_aast rfl
theorem u_11_51 : PW B X 11 51 [some (.ref a), v1, v2] (st) h Q ↔ PW B X 11 52 [some (.ref a), v1, v2] (.ref a :: st) h Q := PW_step rfl rfl rfl rfl
theorem u_11_51n : PW B X 11 51 [some .null, v1, v2] (st) h Q ↔ PW B X 11 52 [some .null, v1, v2] (.null :: st) h Q := PW_step rfl rfl rfl rfl
theorem u_11_52 : PW B X 11 52 lv (.ref a :: st) h Q ↔ PW B X 11 53 lv (.ref a :: .ref a :: st) h Q := PW_step rfl rfl rfl rfl
theorem u_11_52i : PW B X 11 52 lv (.int x :: st) h Q ↔ PW B X 11 53 lv (.int x :: .int x :: st) h Q := PW_step rfl rfl rfl rfl
theorem u_11_53 : PW B X 11 53 lv (.ref a :: st) h Q ↔ pm_O (pm_gf (pm_at B h a) 0 1) (fun v => PW B X 11 56 lv (v :: st) h Q) := PW_getf rfl rfl
theorem u_11_56 : PW B X 11 56 lv (st) h Q ↔ PW B X 11 57 lv (.int 1 :: st) h Q := PW_step rfl rfl rfl rfl
theorem u_11_57 : PW B X 11 57 lv (.int y :: .int x :: st) h Q ↔ PW B X 11 58 lv (.int (x + y) :: st) h Q := PW_step rfl rfl rfl rfl
theorem u_11_58 : PW B X 11 58 lv (v :: .ref a :: st) h Q ↔ pm_O (pm_pf (pm_at B h a) 0 1 v) (fun e => PW B X 11 61 lv (st) (pm_set B h a e) Q) := PW_putf rfl rfl
theorem u_11_61 : PW B X 11 61 [some (.ref a), v1, v2] (st) h Q ↔ PW B X 11 62 [some (.ref a), v1, v2] (.ref a :: st) h Q := PW_step rfl rfl rfl rfl
theorem u_11_61n : PW B X 11 61 [some .null, v1, v2] (st) h Q ↔ PW B X 11 62 [some .null, v1, v2] (.null :: st) h Q := PW_step rfl rfl rfl rfl
theorem u_11_62 : PW B X 11 62 lv (st) h Q ↔ PW B X 11 63 lv (.int (-1) :: st) h Q := PW_step rfl rfl rfl rfl
theorem u_11_63 : PW B X 11 63 lv (v :: .ref a :: st) h Q ↔ pm_O (pm_pf (pm_at B h a) 0 18 v) (fun e => PW B X 11 66 lv (st) (pm_set B h a e) Q) := PW_putf rfl rfl
theorem u_11_66 : PW B X 11 66 [some (.ref a), v1, v2] (st) h Q ↔ PW B X 11 67 [some (.ref a), v1, v2] (.ref a :: st) h Q := PW_step rfl rfl rfl rfl
theorem u_11_66n : PW B X 11 66 [some .null, v1, v2] (st) h Q ↔ PW B X 11 67 [some .null, v1, v2] (.null :: st) h Q := PW_step rfl rfl rfl rfl
theorem u_11_67 : PW B X 11 67 lv (.ref a :: st) h Q ↔ pm_O (pm_gf (pm_at B h a) 0 1) (fun v => PW B X 11 70 lv (v :: st) h Q) := PW_getf rfl rfl
theorem u_11_70 : PW B X 11 70 lv (st) h Q ↔ PW B X 11 71 lv (.int 1 :: st) h Q := PW_step rfl rfl rfl rfl
theorem u_11_71 : PW B X 11 71 lv (.int y :: .int x :: st) h Q ↔ PW B X 11 72 lv (.int (x - y) :: st) h Q := PW_step rfl rfl rfl rfl
theorem u_11_72 : PW B X 11 72 lv ([.int x]) h Q ↔ Q (some (.int x)) h := PW_ret rfl rfl
-- 12 BM_isWithin
theorem u_12_0 : PW B X 12 0 [some (.int x), v1, v2] (st) h Q ↔ PW B X 12 1 [some (.int x), v1, v2] (.int x :: st) h Q := PW_step rfl rfl rfl rfl
theorem u_12_1 : PW B X 12 1 [v0, some (.int x), v2] (st) h Q ↔ PW B X 12 2 [v0, some (.int x), v2] (.int x :: st) h Q := PW_step rfl rfl rfl rfl
theorem u_12_2 : PW B X 12 2 lv (.int y :: .int x :: st) h Q ↔ (if x < y then PW B X 12 14 lv (st) h Q else PW B X 12 5 lv (st) h Q) := PW_icmp rfl rfl pm_c_lt
theorem u_12_5 : PW B X 12 5 [some (.int x), v1, v2] (st) h Q ↔ PW B X 12 6 [some (.int x), v1, v2] (.int x :: st) h Q := PW_step rfl rfl rfl rfl
theorem u_12_6 : PW B X 12 6 [v0, v1, some (.int x)] (st) h Q ↔ PW B X 12 7 [v0, v1, some (.int x)] (.int x :: st) h Q := PW_step rfl rfl rfl rfl
theorem u_12_7 : PW B X 12 7 lv (.int y :: .int x :: st) h Q ↔ (if y < x then PW B X 12 14 lv (st) h Q else PW B X 12 10 lv (st) h Q) := PW_icmp rfl rfl pm_c_gt
theorem u_12_10 : PW B X 12 10 lv (st) h Q ↔ PW B X 12 11 lv (.int 1 :: st) h Q := PW_step rfl rfl rfl rfl
theorem u_12_11 : PW B X 12 11 lv (st) h Q ↔ PW B X 12 15 lv (st) h Q := PW_step rfl rfl rfl rfl
theorem u_12_14 : PW B X 12 14 lv (st) h Q ↔ PW B X 12 15 lv (.int 0 :: st) h Q := PW_step rfl rfl rfl rfl
theorem u_12_15 (hx : narrow .boolean (.int x) = .int x) : PW B X 12 15 lv ([.int x]) h Q ↔ Q (some (.int x)) h := PW_bret rfl rfl (by simp) hx
theorem u_12_15_0 : PW B X 12 15 lv ([.int 0]) h Q ↔ Q (some (.int 0)) h := u_12_15 rfl
theorem u_12_15_1 : PW B X 12 15 lv ([.int 1]) h Q ↔ Q (some (.int 1)) h := u_12_15 rfl
-- 14 BM_held
theorem u_14_0 : PW B X 14 0 [some (.ref a), v1, v2, v3, v4] (st) h Q ↔ PW B X 14 1 [some (.ref a), v1, v2, v3, v4] (.ref a :: st) h Q := PW_step rfl rfl rfl rfl
theorem u_14_0n : PW B X 14 0 [some .null, v1, v2, v3, v4] (st) h Q ↔ PW B X 14 1 [some .null, v1, v2, v3, v4] (.null :: st) h Q := PW_step rfl rfl rfl rfl
theorem u_14_1 : PW B X 14 1 [v0, some (.int x), v2, v3, v4] (st) h Q ↔ PW B X 14 2 [v0, some (.int x), v2, v3, v4] (.int x :: st) h Q := PW_step rfl rfl rfl rfl
theorem u_14_2 : PW B X 14 2 lv (.int q0 :: .ref a :: st) h Q ↔ (pm_w st ≤ 8 ∧ pm_io B h a 0 = true ∧ PW B X 15 0 [some (.ref a), some (.int q0)] [] h (fun r h' => PW B X 14 5 lv (r.toList ++ st) h' Q)) := PW_cv (y := 15) (as := [.int q0]) (rest := st) rfl rfl rfl rfl rfl ⟨Nat.le_of_ble_eq_true rfl, Nat.le_of_ble_eq_true rfl, Nat.le_of_ble_eq_true rfl⟩
theorem u_14_5 : PW B X 14 5 [v0, v1, v2, v3, v4] (.ref a :: st) h Q ↔ PW B X 14 7 [v0, v1, v2, pm_c v3, some (.ref a)] (st) h Q := PW_step rfl rfl rfl rfl
theorem u_14_5n : PW B X 14 5 [v0, v1, v2, v3, v4] (.null :: st) h Q ↔ PW B X 14 7 [v0, v1, v2, pm_c v3, some .null] (st) h Q := PW_step rfl rfl rfl rfl
theorem u_14_7 : PW B X 14 7 [v0, v1, v2, v3, some (.ref a)] (st) h Q ↔ PW B X 14 9 [v0, v1, v2, v3, some (.ref a)] (.ref a :: st) h Q := PW_step rfl rfl rfl rfl
theorem u_14_7n : PW B X 14 7 [v0, v1, v2, v3, some .null] (st) h Q ↔ PW B X 14 9 [v0, v1, v2, v3, some .null] (.null :: st) h Q := PW_step rfl rfl rfl rfl
theorem u_14_9 : PW B X 14 9 lv (.ref a :: st) h Q ↔ PW B X 14 12 lv (st) h Q := PW_step rfl rfl rfl rfl
theorem u_14_9n : PW B X 14 9 lv (.null :: st) h Q ↔ PW B X 14 21 lv (st) h Q := PW_step rfl rfl rfl rfl
theorem u_14_12 : PW B X 14 12 [v0, v1, some (.int x), v3, v4] (st) h Q ↔ PW B X 14 13 [v0, v1, some (.int x), v3, v4] (.int x :: st) h Q := PW_step rfl rfl rfl rfl
theorem u_14_13 : PW B X 14 13 lv (st) h Q ↔ PW B X 14 14 lv (.int 0 :: st) h Q := PW_step rfl rfl rfl rfl
theorem u_14_14 : PW B X 14 14 lv (st) h Q ↔ PW B X 14 15 lv (.int 1 :: st) h Q := PW_step rfl rfl rfl rfl
theorem u_14_15 : PW B X 14 15 lv (.int q2 :: .int q1 :: .int q0 :: st) h Q ↔ (pm_w st ≤ 8 ∧ PW B X 12 0 [some (.int q0), some (.int q1), some (.int q2)] [] h (fun r h' => PW B X 14 18 lv (r.toList ++ st) h' Q)) := PW_cs (y := 12) (as := [.int q0, .int q1, .int q2]) (rest := st) rfl rfl rfl rfl rfl ⟨Nat.le_of_ble_eq_true rfl, Nat.le_of_ble_eq_true rfl, Nat.le_of_ble_eq_true rfl⟩
theorem u_14_18 : PW B X 14 18 lv (.int x :: st) h Q ↔ (if ¬ x = 0 then PW B X 14 23 lv (st) h Q else PW B X 14 21 lv (st) h Q) := PW_if rfl rfl pm_c_ne
theorem u_14_21 : PW B X 14 21 lv (st) h Q ↔ PW B X 14 22 lv (.int 0 :: st) h Q := PW_step rfl rfl rfl rfl
theorem u_14_22 (hx : narrow .boolean (.int x) = .int x) : PW B X 14 22 lv ([.int x]) h Q ↔ Q (some (.int x)) h := PW_bret rfl rfl (by simp) hx
theorem u_14_22_0 : PW B X 14 22 lv ([.int 0]) h Q ↔ Q (some (.int 0)) h := u_14_22 rfl
theorem u_14_22_1 : PW B X 14 22 lv ([.int 1]) h Q ↔ Q (some (.int 1)) h := u_14_22 rfl
theorem u_14_23 : PW B X 14 23 [v0, v1, some (.int x), v3, v4] (st) h Q ↔ PW B X 14 24 [v0, v1, some (.int x), v3, v4] (.int x :: st) h Q := PW_step rfl rfl rfl rfl
theorem u_14_24 : PW B X 14 24 lv (.int x :: st) h Q ↔ (if ¬ x = 0 then PW B X 14 36 lv (st) h Q else PW B X 14 27 lv (st) h Q) := PW_if rfl rfl pm_c_ne
theorem u_14_27 : PW B X 14 27 [v0, v1, v2, v3, some (.ref a)] (st) h Q ↔ PW B X 14 29 [v0, v1, v2, v3, some (.ref a)] (.ref a :: st) h Q := PW_step rfl rfl rfl rfl
theorem u_14_27n : PW B X 14 27 [v0, v1, v2, v3, some .null] (st) h Q ↔ PW B X 14 29 [v0, v1, v2, v3, some .null] (.null :: st) h Q := PW_step rfl rfl rfl rfl
theorem u_14_29 : PW B X 14 29 [v0, v1, v2, some (.int x), v4] (st) h Q ↔ PW B X 14 30 [v0, v1, v2, some (.int x), v4] (.int x :: st) h Q := PW_step rfl rfl rfl rfl
theorem u_14_30 : PW B X 14 30 lv (v :: .ref a :: st) h Q ↔ pm_O (pm_pf (pm_at B h a) 9 2 v) (fun e => PW B X 14 33 lv (st) (pm_set B h a e) Q) := PW_putf rfl rfl
theorem u_14_33 : PW B X 14 33 lv (st) h Q ↔ PW B X 14 42 lv (st) h Q := PW_step rfl rfl rfl rfl
theorem u_14_36 : PW B X 14 36 [v0, v1, v2, v3, some (.ref a)] (st) h Q ↔ PW B X 14 38 [v0, v1, v2, v3, some (.ref a)] (.ref a :: st) h Q := PW_step rfl rfl rfl rfl
theorem u_14_36n : PW B X 14 36 [v0, v1, v2, v3, some .null] (st) h Q ↔ PW B X 14 38 [v0, v1, v2, v3, some .null] (.null :: st) h Q := PW_step rfl rfl rfl rfl
theorem u_14_38 : PW B X 14 38 [v0, v1, v2, some (.int x), v4] (st) h Q ↔ PW B X 14 39 [v0, v1, v2, some (.int x), v4] (.int x :: st) h Q := PW_step rfl rfl rfl rfl
theorem u_14_39 : PW B X 14 39 lv (v :: .ref a :: st) h Q ↔ pm_O (pm_pf (pm_at B h a) 9 3 v) (fun e => PW B X 14 42 lv (st) (pm_set B h a e) Q) := PW_putf rfl rfl
theorem u_14_42 : PW B X 14 42 lv (st) h Q ↔ PW B X 14 43 lv (.int 1 :: st) h Q := PW_step rfl rfl rfl rfl
theorem u_14_43 (hx : narrow .boolean (.int x) = .int x) : PW B X 14 43 lv ([.int x]) h Q ↔ Q (some (.int x)) h := PW_bret rfl rfl (by simp) hx
theorem u_14_43_0 : PW B X 14 43 lv ([.int 0]) h Q ↔ Q (some (.int 0)) h := u_14_43 rfl
theorem u_14_43_1 : PW B X 14 43 lv ([.int 1]) h Q ↔ Q (some (.int 1)) h := u_14_43 rfl
-- 15 BM_find
theorem u_15_0 : PW B X 15 0 [v0, some (.int x)] (st) h Q ↔ PW B X 15 1 [v0, some (.int x)] (.int x :: st) h Q := PW_step rfl rfl rfl rfl
theorem u_15_1 : PW B X 15 1 lv (st) h Q ↔ PW B X 15 2 lv (.int 0 :: st) h Q := PW_step rfl rfl rfl rfl
theorem u_15_2 : PW B X 15 2 [some (.ref a), v1] (st) h Q ↔ PW B X 15 3 [some (.ref a), v1] (.ref a :: st) h Q := PW_step rfl rfl rfl rfl
theorem u_15_2n : PW B X 15 2 [some .null, v1] (st) h Q ↔ PW B X 15 3 [some .null, v1] (.null :: st) h Q := PW_step rfl rfl rfl rfl
theorem u_15_3 : PW B X 15 3 lv (.ref a :: st) h Q ↔ pm_O (pm_gf (pm_at B h a) 0 1) (fun v => PW B X 15 6 lv (v :: st) h Q) := PW_getf rfl rfl
theorem u_15_6 : PW B X 15 6 lv (st) h Q ↔ PW B X 15 7 lv (.int 1 :: st) h Q := PW_step rfl rfl rfl rfl
theorem u_15_7 : PW B X 15 7 lv (.int y :: .int x :: st) h Q ↔ PW B X 15 8 lv (.int (x - y) :: st) h Q := PW_step rfl rfl rfl rfl
theorem u_15_8 : PW B X 15 8 lv (.int q2 :: .int q1 :: .int q0 :: st) h Q ↔ (pm_w st ≤ 8 ∧ PW B X 12 0 [some (.int q0), some (.int q1), some (.int q2)] [] h (fun r h' => PW B X 15 11 lv (r.toList ++ st) h' Q)) := PW_cs (y := 12) (as := [.int q0, .int q1, .int q2]) (rest := st) rfl rfl rfl rfl rfl ⟨Nat.le_of_ble_eq_true rfl, Nat.le_of_ble_eq_true rfl, Nat.le_of_ble_eq_true rfl⟩
theorem u_15_11 : PW B X 15 11 lv (.int x :: st) h Q ↔ (if x = 0 then PW B X 15 29 lv (st) h Q else PW B X 15 14 lv (st) h Q) := PW_if rfl rfl pm_c_eq
theorem u_15_14 : PW B X 15 14 [v0, some (.int x)] (st) h Q ↔ PW B X 15 15 [v0, some (.int x)] (.int x :: st) h Q := PW_step rfl rfl rfl rfl
theorem u_15_15 : PW B X 15 15 lv (st) h Q ↔ PW B X 15 17 lv (.int 10 :: st) h Q := PW_step rfl rfl rfl rfl
theorem u_15_17 : PW B X 15 17 lv (.int y :: .int x :: st) h Q ↔ (if y ≤ x then PW B X 15 29 lv (st) h Q else PW B X 15 20 lv (st) h Q) := PW_icmp rfl rfl pm_c_ge
theorem u_15_20 : PW B X 15 20 [some (.ref a), v1] (st) h Q ↔ PW B X 15 21 [some (.ref a), v1] (.ref a :: st) h Q := PW_step rfl rfl rfl rfl
theorem u_15_20n : PW B X 15 20 [some .null, v1] (st) h Q ↔ PW B X 15 21 [some .null, v1] (.null :: st) h Q := PW_step rfl rfl rfl rfl
theorem u_15_21 : PW B X 15 21 lv (.ref a :: st) h Q ↔ pm_O (pm_gf (pm_at B h a) 0 0) (fun v => PW B X 15 24 lv (v :: st) h Q) := PW_getf rfl rfl
theorem u_15_24 : PW B X 15 24 [v0, some (.int x)] (st) h Q ↔ PW B X 15 25 [v0, some (.int x)] (.int x :: st) h Q := PW_step rfl rfl rfl rfl
theorem u_15_25 : PW B X 15 25 lv (.int x :: .ref a :: st) h Q ↔ pm_O (pm_lda (pm_at B h a) x) (fun v => PW B X 15 26 lv (v :: st) h Q) := PW_aald rfl
theorem u_15_26 : PW B X 15 26 lv (st) h Q ↔ PW B X 15 30 lv (st) h Q := PW_step rfl rfl rfl rfl
theorem u_15_29 : PW B X 15 29 lv (st) h Q ↔ PW B X 15 30 lv (.null :: st) h Q := PW_step rfl rfl rfl rfl
theorem u_15_30 : PW B X 15 30 lv ([.ref a]) h Q ↔ Q (some (.ref a)) h := PW_ret rfl rfl
theorem u_15_30n : PW B X 15 30 lv ([.null]) h Q ↔ Q (some .null) h := PW_ret rfl rfl
-- 16 BM_value
theorem u_16_0 : PW B X 16 0 [some (.ref a), v1, v2, v3, v4, v5, v6] (st) h Q ↔ PW B X 16 1 [some (.ref a), v1, v2, v3, v4, v5, v6] (.ref a :: st) h Q := PW_step rfl rfl rfl rfl
theorem u_16_0n : PW B X 16 0 [some .null, v1, v2, v3, v4, v5, v6] (st) h Q ↔ PW B X 16 1 [some .null, v1, v2, v3, v4, v5, v6] (.null :: st) h Q := PW_step rfl rfl rfl rfl
theorem u_16_1 : PW B X 16 1 [v0, v1, some (.int x), v3, v4, v5, v6] (st) h Q ↔ PW B X 16 2 [v0, v1, some (.int x), v3, v4, v5, v6] (.int x :: st) h Q := PW_step rfl rfl rfl rfl
theorem u_16_2 : PW B X 16 2 lv (.int q0 :: .ref a :: st) h Q ↔ (pm_w st ≤ 8 ∧ pm_io B h a 0 = true ∧ PW B X 15 0 [some (.ref a), some (.int q0)] [] h (fun r h' => PW B X 16 5 lv (r.toList ++ st) h' Q)) := PW_cv (y := 15) (as := [.int q0]) (rest := st) rfl rfl rfl rfl rfl ⟨Nat.le_of_ble_eq_true rfl, Nat.le_of_ble_eq_true rfl, Nat.le_of_ble_eq_true rfl⟩
theorem u_16_5 : PW B X 16 5 [v0, v1, v2, v3, v4, v5, v6] (.ref a :: st) h Q ↔ PW B X 16 7 [v0, v1, v2, v3, v4, pm_c v5, some (.ref a)] (st) h Q := PW_step rfl rfl rfl rfl
theorem u_16_5n : PW B X 16 5 [v0, v1, v2, v3, v4, v5, v6] (.null :: st) h Q ↔ PW B X 16 7 [v0, v1, v2, v3, v4, pm_c v5, some .null] (st) h Q := PW_step rfl rfl rfl rfl
theorem u_16_7 : PW B X 16 7 [v0, v1, v2, v3, v4, v5, some (.ref a)] (st) h Q ↔ PW B X 16 9 [v0, v1, v2, v3, v4, v5, some (.ref a)] (.ref a :: st) h Q := PW_step rfl rfl rfl rfl
theorem u_16_7n : PW B X 16 7 [v0, v1, v2, v3, v4, v5, some .null] (st) h Q ↔ PW B X 16 9 [v0, v1, v2, v3, v4, v5, some .null] (.null :: st) h Q := PW_step rfl rfl rfl rfl
theorem u_16_9 : PW B X 16 9 lv (.ref a :: st) h Q ↔ PW B X 16 12 lv (st) h Q := PW_step rfl rfl rfl rfl
theorem u_16_9n : PW B X 16 9 lv (.null :: st) h Q ↔ PW B X 16 53 lv (st) h Q := PW_step rfl rfl rfl rfl
theorem u_16_12 : PW B X 16 12 [v0, some (.int x), v2, v3, v4, v5, v6] (st) h Q ↔ PW B X 16 13 [v0, some (.int x), v2, v3, v4, v5, v6] (.int x :: st) h Q := PW_step rfl rfl rfl rfl
theorem u_16_13 : PW B X 16 13 lv (st) h Q ↔ PW B X 16 14 lv (.int 0 :: st) h Q := PW_step rfl rfl rfl rfl
theorem u_16_14 : PW B X 16 14 lv (st) h Q ↔ PW B X 16 16 lv (.int 7 :: st) h Q := PW_step rfl rfl rfl rfl
theorem u_16_16 : PW B X 16 16 lv (.int q2 :: .int q1 :: .int q0 :: st) h Q ↔ (pm_w st ≤ 8 ∧ PW B X 12 0 [some (.int q0), some (.int q1), some (.int q2)] [] h (fun r h' => PW B X 16 19 lv (r.toList ++ st) h' Q)) := PW_cs (y := 12) (as := [.int q0, .int q1, .int q2]) (rest := st) rfl rfl rfl rfl rfl ⟨Nat.le_of_ble_eq_true rfl, Nat.le_of_ble_eq_true rfl, Nat.le_of_ble_eq_true rfl⟩
theorem u_16_19 : PW B X 16 19 lv (.int x :: st) h Q ↔ (if x = 0 then PW B X 16 53 lv (st) h Q else PW B X 16 22 lv (st) h Q) := PW_if rfl rfl pm_c_eq
theorem u_16_22 : PW B X 16 22 [v0, v1, v2, some (.int x), v4, v5, v6] (st) h Q ↔ PW B X 16 23 [v0, v1, v2, some (.int x), v4, v5, v6] (.int x :: st) h Q := PW_step rfl rfl rfl rfl
theorem u_16_23 : PW B X 16 23 lv (.int q0 :: st) h Q ↔ (pm_w st ≤ 8 ∧ PW B X 17 0 [some (.int q0)] [] h (fun r h' => PW B X 16 26 lv (r.toList ++ st) h' Q)) := PW_cs (y := 17) (as := [.int q0]) (rest := st) rfl rfl rfl rfl rfl ⟨Nat.le_of_ble_eq_true rfl, Nat.le_of_ble_eq_true rfl, Nat.le_of_ble_eq_true rfl⟩
theorem u_16_26 : PW B X 16 26 lv (.int x :: st) h Q ↔ (if x = 0 then PW B X 16 53 lv (st) h Q else PW B X 16 29 lv (st) h Q) := PW_if rfl rfl pm_c_eq
theorem u_16_29 : PW B X 16 29 [v0, v1, v2, v3, some (.int x), v5, v6] (st) h Q ↔ PW B X 16 31 [v0, v1, v2, v3, some (.int x), v5, v6] (.int x :: st) h Q := PW_step rfl rfl rfl rfl
theorem u_16_31 : PW B X 16 31 lv (st) h Q ↔ PW B X 16 33 lv (.int (-1000000) :: st) h Q := PW_step rfl rfl rfl rfl
theorem u_16_33 : PW B X 16 33 lv (st) h Q ↔ PW B X 16 35 lv (.int 1000000 :: st) h Q := PW_step rfl rfl rfl rfl
theorem u_16_35 : PW B X 16 35 lv (.int q2 :: .int q1 :: .int q0 :: st) h Q ↔ (pm_w st ≤ 8 ∧ PW B X 12 0 [some (.int q0), some (.int q1), some (.int q2)] [] h (fun r h' => PW B X 16 38 lv (r.toList ++ st) h' Q)) := PW_cs (y := 12) (as := [.int q0, .int q1, .int q2]) (rest := st) rfl rfl rfl rfl rfl ⟨Nat.le_of_ble_eq_true rfl, Nat.le_of_ble_eq_true rfl, Nat.le_of_ble_eq_true rfl⟩
theorem u_16_38 : PW B X 16 38 lv (.int x :: st) h Q ↔ (if x = 0 then PW B X 16 53 lv (st) h Q else PW B X 16 41 lv (st) h Q) := PW_if rfl rfl pm_c_eq
theorem u_16_41 : PW B X 16 41 [v0, v1, v2, v3, v4, some (.int x), v6] (st) h Q ↔ PW B X 16 43 [v0, v1, v2, v3, v4, some (.int x), v6] (.int x :: st) h Q := PW_step rfl rfl rfl rfl
theorem u_16_43 : PW B X 16 43 lv (st) h Q ↔ PW B X 16 44 lv (.int 1 :: st) h Q := PW_step rfl rfl rfl rfl
theorem u_16_44 : PW B X 16 44 lv (st) h Q ↔ PW B X 16 47 lv (.int 1000 :: st) h Q := PW_step rfl rfl rfl rfl
theorem u_16_47 : PW B X 16 47 lv (.int q2 :: .int q1 :: .int q0 :: st) h Q ↔ (pm_w st ≤ 8 ∧ PW B X 12 0 [some (.int q0), some (.int q1), some (.int q2)] [] h (fun r h' => PW B X 16 50 lv (r.toList ++ st) h' Q)) := PW_cs (y := 12) (as := [.int q0, .int q1, .int q2]) (rest := st) rfl rfl rfl rfl rfl ⟨Nat.le_of_ble_eq_true rfl, Nat.le_of_ble_eq_true rfl, Nat.le_of_ble_eq_true rfl⟩
theorem u_16_50 : PW B X 16 50 lv (.int x :: st) h Q ↔ (if ¬ x = 0 then PW B X 16 55 lv (st) h Q else PW B X 16 53 lv (st) h Q) := PW_if rfl rfl pm_c_ne
theorem u_16_53 : PW B X 16 53 lv (st) h Q ↔ PW B X 16 54 lv (.int 0 :: st) h Q := PW_step rfl rfl rfl rfl
theorem u_16_54 (hx : narrow .boolean (.int x) = .int x) : PW B X 16 54 lv ([.int x]) h Q ↔ Q (some (.int x)) h := PW_bret rfl rfl (by simp) hx
theorem u_16_54_0 : PW B X 16 54 lv ([.int 0]) h Q ↔ Q (some (.int 0)) h := u_16_54 rfl
theorem u_16_54_1 : PW B X 16 54 lv ([.int 1]) h Q ↔ Q (some (.int 1)) h := u_16_54 rfl
theorem u_16_55 : PW B X 16 55 [v0, v1, v2, v3, v4, v5, some (.ref a)] (st) h Q ↔ PW B X 16 57 [v0, v1, v2, v3, v4, v5, some (.ref a)] (.ref a :: st) h Q := PW_step rfl rfl rfl rfl
theorem u_16_55n : PW B X 16 55 [v0, v1, v2, v3, v4, v5, some .null] (st) h Q ↔ PW B X 16 57 [v0, v1, v2, v3, v4, v5, some .null] (.null :: st) h Q := PW_step rfl rfl rfl rfl
theorem u_16_57 : PW B X 16 57 lv (.ref a :: st) h Q ↔ pm_O (pm_gf (pm_at B h a) 9 4) (fun v => PW B X 16 60 lv (v :: st) h Q) := PW_getf rfl rfl
theorem u_16_60 : PW B X 16 60 [v0, some (.int x), v2, v3, v4, v5, v6] (st) h Q ↔ PW B X 16 61 [v0, some (.int x), v2, v3, v4, v5, v6] (.int x :: st) h Q := PW_step rfl rfl rfl rfl
theorem u_16_61 : PW B X 16 61 lv (st) h Q ↔ PW B X 16 62 lv (.int 3 :: st) h Q := PW_step rfl rfl rfl rfl
theorem u_16_62 : PW B X 16 62 lv (.int y :: .int x :: st) h Q ↔ PW B X 16 63 lv (.int (x * y) :: st) h Q := PW_step rfl rfl rfl rfl
theorem u_16_63 : PW B X 16 63 [v0, v1, v2, some (.int x), v4, v5, v6] (st) h Q ↔ PW B X 16 64 [v0, v1, v2, some (.int x), v4, v5, v6] (.int x :: st) h Q := PW_step rfl rfl rfl rfl
theorem u_16_64 : PW B X 16 64 lv (.int y :: .int x :: st) h Q ↔ PW B X 16 65 lv (.int (x + y) :: st) h Q := PW_step rfl rfl rfl rfl
theorem u_16_65 : PW B X 16 65 [v0, v1, v2, v3, some (.int x), v5, v6] (st) h Q ↔ PW B X 16 67 [v0, v1, v2, v3, some (.int x), v5, v6] (.int x :: st) h Q := PW_step rfl rfl rfl rfl
theorem u_16_67 : PW B X 16 67 lv (.int y :: .int x :: .ref a :: st) h Q ↔ pm_O (pm_sti 0 (pm_at B h a) x y) (fun e => PW B X 16 68 lv (st) (pm_set B h a e) Q) := PW_iast rfl
theorem u_16_68 : PW B X 16 68 [v0, v1, v2, v3, v4, v5, some (.ref a)] (st) h Q ↔ PW B X 16 70 [v0, v1, v2, v3, v4, v5, some (.ref a)] (.ref a :: st) h Q := PW_step rfl rfl rfl rfl
theorem u_16_68n : PW B X 16 68 [v0, v1, v2, v3, v4, v5, some .null] (st) h Q ↔ PW B X 16 70 [v0, v1, v2, v3, v4, v5, some .null] (.null :: st) h Q := PW_step rfl rfl rfl rfl
theorem u_16_70 : PW B X 16 70 lv (.ref a :: st) h Q ↔ pm_O (pm_gf (pm_at B h a) 9 5) (fun v => PW B X 16 73 lv (v :: st) h Q) := PW_getf rfl rfl
theorem u_16_73 : PW B X 16 73 [v0, some (.int x), v2, v3, v4, v5, v6] (st) h Q ↔ PW B X 16 74 [v0, some (.int x), v2, v3, v4, v5, v6] (.int x :: st) h Q := PW_step rfl rfl rfl rfl
theorem u_16_74 : PW B X 16 74 lv (st) h Q ↔ PW B X 16 75 lv (.int 3 :: st) h Q := PW_step rfl rfl rfl rfl
theorem u_16_75 : PW B X 16 75 lv (.int y :: .int x :: st) h Q ↔ PW B X 16 76 lv (.int (x * y) :: st) h Q := PW_step rfl rfl rfl rfl
theorem u_16_76 : PW B X 16 76 [v0, v1, v2, some (.int x), v4, v5, v6] (st) h Q ↔ PW B X 16 77 [v0, v1, v2, some (.int x), v4, v5, v6] (.int x :: st) h Q := PW_step rfl rfl rfl rfl
theorem u_16_77 : PW B X 16 77 lv (.int y :: .int x :: st) h Q ↔ PW B X 16 78 lv (.int (x + y) :: st) h Q := PW_step rfl rfl rfl rfl
theorem u_16_78 : PW B X 16 78 [v0, v1, v2, v3, v4, some (.int x), v6] (st) h Q ↔ PW B X 16 80 [v0, v1, v2, v3, v4, some (.int x), v6] (.int x :: st) h Q := PW_step rfl rfl rfl rfl
theorem u_16_80 : PW B X 16 80 lv (.int y :: .int x :: .ref a :: st) h Q ↔ pm_O (pm_sti 0 (pm_at B h a) x y) (fun e => PW B X 16 81 lv (st) (pm_set B h a e) Q) := PW_iast rfl
theorem u_16_81 : PW B X 16 81 lv (st) h Q ↔ PW B X 16 82 lv (.int 1 :: st) h Q := PW_step rfl rfl rfl rfl
theorem u_16_82 (hx : narrow .boolean (.int x) = .int x) : PW B X 16 82 lv ([.int x]) h Q ↔ Q (some (.int x)) h := PW_bret rfl rfl (by simp) hx
theorem u_16_82_0 : PW B X 16 82 lv ([.int 0]) h Q ↔ Q (some (.int 0)) h := u_16_82 rfl
theorem u_16_82_1 : PW B X 16 82 lv ([.int 1]) h Q ↔ Q (some (.int 1)) h := u_16_82 rfl
-- 17 BM_isAxis
theorem u_17_0 : PW B X 17 0 [some (.int x)] (st) h Q ↔ PW B X 17 1 [some (.int x)] (.int x :: st) h Q := PW_step rfl rfl rfl rfl
theorem u_17_1 : PW B X 17 1 lv (st) h Q ↔ PW B X 17 2 lv (.int 0 :: st) h Q := PW_step rfl rfl rfl rfl
theorem u_17_2 : PW B X 17 2 lv (st) h Q ↔ PW B X 17 3 lv (.int 2 :: st) h Q := PW_step rfl rfl rfl rfl
theorem u_17_3 : PW B X 17 3 lv (.int q2 :: .int q1 :: .int q0 :: st) h Q ↔ (pm_w st ≤ 8 ∧ PW B X 12 0 [some (.int q0), some (.int q1), some (.int q2)] [] h (fun r h' => PW B X 17 6 lv (r.toList ++ st) h' Q)) := PW_cs (y := 12) (as := [.int q0, .int q1, .int q2]) (rest := st) rfl rfl rfl rfl rfl ⟨Nat.le_of_ble_eq_true rfl, Nat.le_of_ble_eq_true rfl, Nat.le_of_ble_eq_true rfl⟩
theorem u_17_6 (hx : narrow .boolean (.int x) = .int x) : PW B X 17 6 lv ([.int x]) h Q ↔ Q (some (.int x)) h := PW_bret rfl rfl (by simp) hx
theorem u_17_6_0 : PW B X 17 6 lv ([.int 0]) h Q ↔ Q (some (.int 0)) h := u_17_6 rfl
theorem u_17_6_1 : PW B X 17 6 lv ([.int 1]) h Q ↔ Q (some (.int 1)) h := u_17_6 rfl
-- 18 BM_unit
theorem u_18_0 : PW B X 18 0 [some (.ref a), v1] (st) h Q ↔ PW B X 18 1 [some (.ref a), v1] (.ref a :: st) h Q := PW_step rfl rfl rfl rfl
theorem u_18_0n : PW B X 18 0 [some .null, v1] (st) h Q ↔ PW B X 18 1 [some .null, v1] (.null :: st) h Q := PW_step rfl rfl rfl rfl
theorem u_18_1 : PW B X 18 1 lv (.ref a :: st) h Q ↔ pm_O (pm_gf (pm_at B h a) 0 3) (fun v => PW B X 18 4 lv (v :: st) h Q) := PW_getf rfl rfl
theorem u_18_4 : PW B X 18 4 [v0, some (.int x)] (st) h Q ↔ PW B X 18 5 [v0, some (.int x)] (.int x :: st) h Q := PW_step rfl rfl rfl rfl
theorem u_18_5 : PW B X 18 5 lv (.int q0 :: .ref a :: st) h Q ↔ (pm_w st ≤ 8 ∧ pm_io B h a 2 = true ∧ PW B X 19 0 [some (.ref a), some (.int q0)] [] h (fun r h' => PW B X 18 8 lv (r.toList ++ st) h' Q)) := PW_cv (y := 19) (as := [.int q0]) (rest := st) rfl rfl rfl rfl rfl ⟨Nat.le_of_ble_eq_true rfl, Nat.le_of_ble_eq_true rfl, Nat.le_of_ble_eq_true rfl⟩
theorem u_18_8 (hx : narrow .boolean (.int x) = .int x) : PW B X 18 8 lv ([.int x]) h Q ↔ Q (some (.int x)) h := PW_bret rfl rfl (by simp) hx
theorem u_18_8_0 : PW B X 18 8 lv ([.int 0]) h Q ↔ Q (some (.int 0)) h := u_18_8 rfl
theorem u_18_8_1 : PW B X 18 8 lv ([.int 1]) h Q ↔ Q (some (.int 1)) h := u_18_8 rfl
-- 20 BM_rules
theorem u_20_0 : PW B X 20 0 [some (.ref a), v1, v2] (st) h Q ↔ PW B X 20 1 [some (.ref a), v1, v2] (.ref a :: st) h Q := PW_step rfl rfl rfl rfl
theorem u_20_0n : PW B X 20 0 [some .null, v1, v2] (st) h Q ↔ PW B X 20 1 [some .null, v1, v2] (.null :: st) h Q := PW_step rfl rfl rfl rfl
theorem u_20_1 : PW B X 20 1 lv (.ref a :: st) h Q ↔ pm_O (pm_gf (pm_at B h a) 0 3) (fun v => PW B X 20 4 lv (v :: st) h Q) := PW_getf rfl rfl
theorem u_20_4 : PW B X 20 4 [some (.ref a), v1, v2] (st) h Q ↔ PW B X 20 5 [some (.ref a), v1, v2] (.ref a :: st) h Q := PW_step rfl rfl rfl rfl
theorem u_20_4n : PW B X 20 4 [some .null, v1, v2] (st) h Q ↔ PW B X 20 5 [some .null, v1, v2] (.null :: st) h Q := PW_step rfl rfl rfl rfl
theorem u_20_5 : PW B X 20 5 lv (.ref a :: st) h Q ↔ pm_O (pm_gf (pm_at B h a) 0 5) (fun v => PW B X 20 8 lv (v :: st) h Q) := PW_getf rfl rfl
theorem u_20_8 : PW B X 20 8 lv (.ref r0 :: .ref a :: st) h Q ↔ (pm_w st ≤ 8 ∧ pm_io B h a 2 = true ∧ PW B X 21 0 [some (.ref a), some (.ref r0), none, none] [] h (fun r h' => PW B X 20 11 lv (r.toList ++ st) h' Q)) := PW_cv (y := 21) (as := [.ref r0]) (rest := st) rfl rfl rfl rfl rfl ⟨Nat.le_of_ble_eq_true rfl, Nat.le_of_ble_eq_true rfl, Nat.le_of_ble_eq_true rfl⟩
theorem u_20_11 : PW B X 20 11 [v0, v1, v2] (.int x :: st) h Q ↔ PW B X 20 12 [pm_c v0, some (.int x), v2] (st) h Q := PW_step rfl rfl rfl rfl
theorem u_20_12 : PW B X 20 12 [some (.ref a), v1, v2] (st) h Q ↔ PW B X 20 13 [some (.ref a), v1, v2] (.ref a :: st) h Q := PW_step rfl rfl rfl rfl
theorem u_20_12n : PW B X 20 12 [some .null, v1, v2] (st) h Q ↔ PW B X 20 13 [some .null, v1, v2] (.null :: st) h Q := PW_step rfl rfl rfl rfl
theorem u_20_13 : PW B X 20 13 lv (.ref a :: st) h Q ↔ pm_O (pm_gf (pm_at B h a) 0 3) (fun v => PW B X 20 16 lv (v :: st) h Q) := PW_getf rfl rfl
theorem u_20_16 : PW B X 20 16 lv (.ref a :: st) h Q ↔ (pm_w st ≤ 8 ∧ pm_io B h a 2 = true ∧ PW B X 33 0 [some (.ref a)] [] h (fun r h' => PW B X 20 19 lv (r.toList ++ st) h' Q)) := PW_cv (y := 33) (as := []) (rest := st) rfl rfl rfl rfl rfl ⟨Nat.le_of_ble_eq_true rfl, Nat.le_of_ble_eq_true rfl, Nat.le_of_ble_eq_true rfl⟩
theorem u_20_19 : PW B X 20 19 [v0, some (.int x), v2] (st) h Q ↔ PW B X 20 20 [v0, some (.int x), v2] (.int x :: st) h Q := PW_step rfl rfl rfl rfl
theorem u_20_20 : PW B X 20 20 lv (.int x :: st) h Q ↔ (if x < 0 then PW B X 20 41 lv (st) h Q else PW B X 20 23 lv (st) h Q) := PW_if rfl rfl pm_c_lt
theorem u_20_23 : PW B X 20 23 [some (.ref a), v1, v2] (st) h Q ↔ PW B X 20 24 [some (.ref a), v1, v2] (.ref a :: st) h Q := PW_step rfl rfl rfl rfl
theorem u_20_23n : PW B X 20 23 [some .null, v1, v2] (st) h Q ↔ PW B X 20 24 [some .null, v1, v2] (.null :: st) h Q := PW_step rfl rfl rfl rfl
theorem u_20_24 : PW B X 20 24 lv (.ref a :: st) h Q ↔ pm_O (pm_gf (pm_at B h a) 0 4) (fun v => PW B X 20 27 lv (v :: st) h Q) := PW_getf rfl rfl
theorem u_20_27 : PW B X 20 27 [v0, v1, v2] (.ref a :: st) h Q ↔ PW B X 20 28 [v0, pm_c v1, some (.ref a)] (st) h Q := PW_step rfl rfl rfl rfl
theorem u_20_27n : PW B X 20 27 [v0, v1, v2] (.null :: st) h Q ↔ PW B X 20 28 [v0, pm_c v1, some .null] (st) h Q := PW_step rfl rfl rfl rfl
theorem u_20_28 : PW B X 20 28 [some (.ref a), v1, v2] (st) h Q ↔ PW B X 20 29 [some (.ref a), v1, v2] (.ref a :: st) h Q := PW_step rfl rfl rfl rfl
theorem u_20_28n : PW B X 20 28 [some .null, v1, v2] (st) h Q ↔ PW B X 20 29 [some .null, v1, v2] (.null :: st) h Q := PW_step rfl rfl rfl rfl
theorem u_20_29 : PW B X 20 29 [some (.ref a), v1, v2] (st) h Q ↔ PW B X 20 30 [some (.ref a), v1, v2] (.ref a :: st) h Q := PW_step rfl rfl rfl rfl
theorem u_20_29n : PW B X 20 29 [some .null, v1, v2] (st) h Q ↔ PW B X 20 30 [some .null, v1, v2] (.null :: st) h Q := PW_step rfl rfl rfl rfl
theorem u_20_30 : PW B X 20 30 lv (.ref a :: st) h Q ↔ pm_O (pm_gf (pm_at B h a) 0 5) (fun v => PW B X 20 33 lv (v :: st) h Q) := PW_getf rfl rfl
theorem u_20_33 : PW B X 20 33 lv (v :: .ref a :: st) h Q ↔ pm_O (pm_pf (pm_at B h a) 0 4 v) (fun e => PW B X 20 36 lv (st) (pm_set B h a e) Q) := PW_putf rfl rfl
theorem u_20_36 : PW B X 20 36 [some (.ref a), v1, v2] (st) h Q ↔ PW B X 20 37 [some (.ref a), v1, v2] (.ref a :: st) h Q := PW_step rfl rfl rfl rfl
theorem u_20_36n : PW B X 20 36 [some .null, v1, v2] (st) h Q ↔ PW B X 20 37 [some .null, v1, v2] (.null :: st) h Q := PW_step rfl rfl rfl rfl
theorem u_20_37 : PW B X 20 37 [v0, v1, some (.ref a)] (st) h Q ↔ PW B X 20 38 [v0, v1, some (.ref a)] (.ref a :: st) h Q := PW_step rfl rfl rfl rfl
theorem u_20_37n : PW B X 20 37 [v0, v1, some .null] (st) h Q ↔ PW B X 20 38 [v0, v1, some .null] (.null :: st) h Q := PW_step rfl rfl rfl rfl
theorem u_20_38 : PW B X 20 38 lv (v :: .ref a :: st) h Q ↔ pm_O (pm_pf (pm_at B h a) 0 5 v) (fun e => PW B X 20 41 lv (st) (pm_set B h a e) Q) := PW_putf rfl rfl
theorem u_20_41 : PW B X 20 41 [v0, some (.int x), v2] (st) h Q ↔ PW B X 20 42 [v0, some (.int x), v2] (.int x :: st) h Q := PW_step rfl rfl rfl rfl
theorem u_20_42 : PW B X 20 42 lv ([.int x]) h Q ↔ Q (some (.int x)) h := PW_ret rfl rfl
-- 34 BM_sum
theorem u_34_0 : PW B X 34 0 [some (.ref a), v1, v2, v3, v4, v5] (st) h Q ↔ PW B X 34 1 [some (.ref a), v1, v2, v3, v4, v5] (.ref a :: st) h Q := PW_step rfl rfl rfl rfl
theorem u_34_0n : PW B X 34 0 [some .null, v1, v2, v3, v4, v5] (st) h Q ↔ PW B X 34 1 [some .null, v1, v2, v3, v4, v5] (.null :: st) h Q := PW_step rfl rfl rfl rfl
theorem u_34_1 : PW B X 34 1 [v0, some (.int x), v2, v3, v4, v5] (st) h Q ↔ PW B X 34 2 [v0, some (.int x), v2, v3, v4, v5] (.int x :: st) h Q := PW_step rfl rfl rfl rfl
theorem u_34_2 : PW B X 34 2 lv (.int q0 :: .ref a :: st) h Q ↔ (pm_w st ≤ 8 ∧ pm_io B h a 0 = true ∧ PW B X 15 0 [some (.ref a), some (.int q0)] [] h (fun r h' => PW B X 34 5 lv (r.toList ++ st) h' Q)) := PW_cv (y := 15) (as := [.int q0]) (rest := st) rfl rfl rfl rfl rfl ⟨Nat.le_of_ble_eq_true rfl, Nat.le_of_ble_eq_true rfl, Nat.le_of_ble_eq_true rfl⟩
theorem u_34_5 : PW B X 34 5 [v0, v1, v2, v3, v4, v5] (.ref a :: st) h Q ↔ PW B X 34 7 [v0, v1, v2, v3, pm_c v4, some (.ref a)] (st) h Q := PW_step rfl rfl rfl rfl
theorem u_34_5n : PW B X 34 5 [v0, v1, v2, v3, v4, v5] (.null :: st) h Q ↔ PW B X 34 7 [v0, v1, v2, v3, pm_c v4, some .null] (st) h Q := PW_step rfl rfl rfl rfl
theorem u_34_7 : PW B X 34 7 [v0, v1, v2, v3, v4, some (.ref a)] (st) h Q ↔ PW B X 34 9 [v0, v1, v2, v3, v4, some (.ref a)] (.ref a :: st) h Q := PW_step rfl rfl rfl rfl
theorem u_34_7n : PW B X 34 7 [v0, v1, v2, v3, v4, some .null] (st) h Q ↔ PW B X 34 9 [v0, v1, v2, v3, v4, some .null] (.null :: st) h Q := PW_step rfl rfl rfl rfl
theorem u_34_9 : PW B X 34 9 lv (.ref a :: st) h Q ↔ PW B X 34 12 lv (st) h Q := PW_step rfl rfl rfl rfl
theorem u_34_9n : PW B X 34 9 lv (.null :: st) h Q ↔ PW B X 34 34 lv (st) h Q := PW_step rfl rfl rfl rfl
theorem u_34_12 : PW B X 34 12 [v0, v1, some (.int x), v3, v4, v5] (st) h Q ↔ PW B X 34 13 [v0, v1, some (.int x), v3, v4, v5] (.int x :: st) h Q := PW_step rfl rfl rfl rfl
theorem u_34_13 : PW B X 34 13 lv (.int q0 :: st) h Q ↔ (pm_w st ≤ 8 ∧ PW B X 17 0 [some (.int q0)] [] h (fun r h' => PW B X 34 16 lv (r.toList ++ st) h' Q)) := PW_cs (y := 17) (as := [.int q0]) (rest := st) rfl rfl rfl rfl rfl ⟨Nat.le_of_ble_eq_true rfl, Nat.le_of_ble_eq_true rfl, Nat.le_of_ble_eq_true rfl⟩
theorem u_34_16 : PW B X 34 16 lv (.int x :: st) h Q ↔ (if x = 0 then PW B X 34 34 lv (st) h Q else PW B X 34 19 lv (st) h Q) := PW_if rfl rfl pm_c_eq
theorem u_34_19 : PW B X 34 19 [v0, v1, v2, some (.int x), v4, v5] (st) h Q ↔ PW B X 34 20 [v0, v1, v2, some (.int x), v4, v5] (.int x :: st) h Q := PW_step rfl rfl rfl rfl
theorem u_34_20 : PW B X 34 20 lv (st) h Q ↔ PW B X 34 21 lv (.int 0 :: st) h Q := PW_step rfl rfl rfl rfl
theorem u_34_21 : PW B X 34 21 lv (st) h Q ↔ PW B X 34 22 lv (.int 2 :: st) h Q := PW_step rfl rfl rfl rfl
theorem u_34_22 : PW B X 34 22 lv (.int q2 :: .int q1 :: .int q0 :: st) h Q ↔ (pm_w st ≤ 8 ∧ PW B X 12 0 [some (.int q0), some (.int q1), some (.int q2)] [] h (fun r h' => PW B X 34 25 lv (r.toList ++ st) h' Q)) := PW_cs (y := 12) (as := [.int q0, .int q1, .int q2]) (rest := st) rfl rfl rfl rfl rfl ⟨Nat.le_of_ble_eq_true rfl, Nat.le_of_ble_eq_true rfl, Nat.le_of_ble_eq_true rfl⟩
theorem u_34_25 : PW B X 34 25 lv (.int x :: st) h Q ↔ (if x = 0 then PW B X 34 34 lv (st) h Q else PW B X 34 28 lv (st) h Q) := PW_if rfl rfl pm_c_eq
theorem u_34_28 : PW B X 34 28 [v0, v1, v2, v3, some (.int x), v5] (st) h Q ↔ PW B X 34 30 [v0, v1, v2, v3, some (.int x), v5] (.int x :: st) h Q := PW_step rfl rfl rfl rfl
theorem u_34_30 : PW B X 34 30 lv (st) h Q ↔ PW B X 34 31 lv (.int (-1) :: st) h Q := PW_step rfl rfl rfl rfl
theorem u_34_31 : PW B X 34 31 lv (.int y :: .int x :: st) h Q ↔ (if y ≤ x then PW B X 34 40 lv (st) h Q else PW B X 34 34 lv (st) h Q) := PW_icmp rfl rfl pm_c_ge
theorem u_34_34 : PW B X 34 34 [v0, v1, v2, v3, some (.int x), v5] (st) h Q ↔ PW B X 34 36 [v0, v1, v2, v3, some (.int x), v5] (.int x :: st) h Q := PW_step rfl rfl rfl rfl
theorem u_34_36 : PW B X 34 36 lv (.int q0 :: st) h Q ↔ (pm_w st ≤ 8 ∧ PW B X 35 0 [some (.int q0)] [] h (fun r h' => PW B X 34 39 lv (r.toList ++ st) h' Q)) := PW_cs (y := 35) (as := [.int q0]) (rest := st) rfl rfl rfl rfl rfl ⟨Nat.le_of_ble_eq_true rfl, Nat.le_of_ble_eq_true rfl, Nat.le_of_ble_eq_true rfl⟩
theorem u_34_39 : PW B X 34 39 lv ([.long z]) h Q ↔ Q (some (.long z)) h := PW_ret rfl rfl
theorem u_34_40 : PW B X 34 40 [some (.ref a), v1, v2, v3, v4, v5] (st) h Q ↔ PW B X 34 41 [some (.ref a), v1, v2, v3, v4, v5] (.ref a :: st) h Q := PW_step rfl rfl rfl rfl
theorem u_34_40n : PW B X 34 40 [some .null, v1, v2, v3, v4, v5] (st) h Q ↔ PW B X 34 41 [some .null, v1, v2, v3, v4, v5] (.null :: st) h Q := PW_step rfl rfl rfl rfl
theorem u_34_41 : PW B X 34 41 lv (.ref a :: st) h Q ↔ pm_O (pm_gf (pm_at B h a) 0 7) (fun v => PW B X 34 44 lv (v :: st) h Q) := PW_getf rfl rfl
theorem u_34_44 : PW B X 34 44 [some (.ref a), v1, v2, v3, v4, v5] (st) h Q ↔ PW B X 34 45 [some (.ref a), v1, v2, v3, v4, v5] (.ref a :: st) h Q := PW_step rfl rfl rfl rfl
theorem u_34_44n : PW B X 34 44 [some .null, v1, v2, v3, v4, v5] (st) h Q ↔ PW B X 34 45 [some .null, v1, v2, v3, v4, v5] (.null :: st) h Q := PW_step rfl rfl rfl rfl
theorem u_34_45 : PW B X 34 45 lv (.ref a :: st) h Q ↔ pm_O (pm_gf (pm_at B h a) 0 4) (fun v => PW B X 34 48 lv (v :: st) h Q) := PW_getf rfl rfl
theorem u_34_48 : PW B X 34 48 [v0, v1, v2, v3, v4, some (.ref a)] (st) h Q ↔ PW B X 34 50 [v0, v1, v2, v3, v4, some (.ref a)] (.ref a :: st) h Q := PW_step rfl rfl rfl rfl
theorem u_34_48n : PW B X 34 48 [v0, v1, v2, v3, v4, some .null] (st) h Q ↔ PW B X 34 50 [v0, v1, v2, v3, v4, some .null] (.null :: st) h Q := PW_step rfl rfl rfl rfl
theorem u_34_50 : PW B X 34 50 [v0, v1, some (.int x), v3, v4, v5] (st) h Q ↔ PW B X 34 51 [v0, v1, some (.int x), v3, v4, v5] (.int x :: st) h Q := PW_step rfl rfl rfl rfl
theorem u_34_51 : PW B X 34 51 lv (.int q2 :: .ref r1 :: .ref r0 :: .ref a :: st) h Q ↔ (pm_w st ≤ 8 ∧ pm_io B h a 6 = true ∧ PW B X 36 0 [some (.ref a), some (.ref r0), some (.ref r1), some (.int q2), none] [] h (fun r h' => PW B X 34 54 lv (r.toList ++ st) h' Q)) := PW_cv (y := 36) (as := [.ref r0, .ref r1, .int q2]) (rest := st) rfl rfl rfl rfl rfl ⟨Nat.le_of_ble_eq_true rfl, Nat.le_of_ble_eq_true rfl, Nat.le_of_ble_eq_true rfl⟩
theorem u_34_54 : PW B X 34 54 [some (.ref a), v1, v2, v3, v4, v5] (st) h Q ↔ PW B X 34 55 [some (.ref a), v1, v2, v3, v4, v5] (.ref a :: st) h Q := PW_step rfl rfl rfl rfl
theorem u_34_54n : PW B X 34 54 [some .null, v1, v2, v3, v4, v5] (st) h Q ↔ PW B X 34 55 [some .null, v1, v2, v3, v4, v5] (.null :: st) h Q := PW_step rfl rfl rfl rfl
theorem u_34_55 : PW B X 34 55 lv (.ref a :: st) h Q ↔ pm_O (pm_gf (pm_at B h a) 0 7) (fun v => PW B X 34 58 lv (v :: st) h Q) := PW_getf rfl rfl
theorem u_34_58 : PW B X 34 58 [v0, v1, v2, some (.int x), v4, v5] (st) h Q ↔ PW B X 34 59 [v0, v1, v2, some (.int x), v4, v5] (.int x :: st) h Q := PW_step rfl rfl rfl rfl
theorem u_34_59 : PW B X 34 59 lv (.int q0 :: .ref a :: st) h Q ↔ (pm_w st ≤ 8 ∧ pm_io B h a 6 = true ∧ PW B X 60 0 [some (.ref a), some (.int q0)] [] h (fun r h' => PW B X 34 62 lv (r.toList ++ st) h' Q)) := PW_cv (y := 60) (as := [.int q0]) (rest := st) rfl rfl rfl rfl rfl ⟨Nat.le_of_ble_eq_true rfl, Nat.le_of_ble_eq_true rfl, Nat.le_of_ble_eq_true rfl⟩
theorem u_34_62 : PW B X 34 62 [v0, v1, v2, v3, some (.int x), v5] (st) h Q ↔ PW B X 34 64 [v0, v1, v2, v3, some (.int x), v5] (.int x :: st) h Q := PW_step rfl rfl rfl rfl
theorem u_34_64 : PW B X 34 64 lv (.int q0 :: .ref a :: st) h Q ↔ (pm_w st ≤ 8 ∧ pm_io B h a 8 = true ∧ PW B X 61 0 [some (.ref a), some (.int q0)] [] h (fun r h' => PW B X 34 67 lv (r.toList ++ st) h' Q)) := PW_cv (y := 61) (as := [.int q0]) (rest := st) rfl rfl rfl rfl rfl ⟨Nat.le_of_ble_eq_true rfl, Nat.le_of_ble_eq_true rfl, Nat.le_of_ble_eq_true rfl⟩
theorem u_34_67 : PW B X 34 67 lv ([.long z]) h Q ↔ Q (some (.long z)) h := PW_ret rfl rfl
-- 35 BM_wrongFor
theorem u_35_0 : PW B X 35 0 [some (.int x)] (st) h Q ↔ PW B X 35 1 [some (.int x)] (.int x :: st) h Q := PW_step rfl rfl rfl rfl
theorem u_35_1 : PW B X 35 1 lv (st) h Q ↔ PW B X 35 2 lv (.int (-1) :: st) h Q := PW_step rfl rfl rfl rfl
theorem u_35_2 : PW B X 35 2 lv (.int y :: .int x :: st) h Q ↔ (if ¬ x = y then PW B X 35 11 lv (st) h Q else PW B X 35 5 lv (st) h Q) := PW_icmp rfl rfl pm_c_ne
theorem u_35_5 : PW B X 35 5 lv (st) h Q ↔ PW B X 35 8 lv (.long (-2) :: st) h Q := PW_step rfl rfl rfl rfl
theorem u_35_8 : PW B X 35 8 lv (st) h Q ↔ PW B X 35 14 lv (st) h Q := PW_step rfl rfl rfl rfl
theorem u_35_11 : PW B X 35 11 lv (st) h Q ↔ PW B X 35 14 lv (.long (-1) :: st) h Q := PW_step rfl rfl rfl rfl
theorem u_35_14 : PW B X 35 14 lv ([.long z]) h Q ↔ Q (some (.long z)) h := PW_ret rfl rfl
-- 38 BM_commonDivisor
theorem u_38_0 : PW B X 38 0 [some (.long z), v1, v2, v3, v4, v5, v6, v7, v8, v9, v10] (st) h Q ↔ PW B X 38 1 [some (.long z), v1, v2, v3, v4, v5, v6, v7, v8, v9, v10] (.long z :: st) h Q := PW_step rfl rfl rfl rfl
theorem u_38_1 : PW B X 38 1 [v0, v1, v2, v3, v4, v5, v6, v7, v8, v9, v10] (.long z :: st) h Q ↔ PW B X 38 3 [v0, v1, v2, pm_c v3, some (.long z), none, v6, v7, v8, v9, v10] (st) h Q := PW_step rfl rfl rfl rfl
theorem u_38_3 : PW B X 38 3 [v0, v1, some (.long z), v3, v4, v5, v6, v7, v8, v9, v10] (st) h Q ↔ PW B X 38 4 [v0, v1, some (.long z), v3, v4, v5, v6, v7, v8, v9, v10] (.long z :: st) h Q := PW_step rfl rfl rfl rfl
theorem u_38_4 : PW B X 38 4 [v0, v1, v2, v3, v4, v5, v6, v7, v8, v9, v10] (.long z :: st) h Q ↔ PW B X 38 6 [v0, v1, v2, v3, v4, pm_c v5, some (.long z), none, v8, v9, v10] (st) h Q := PW_step rfl rfl rfl rfl
theorem u_38_6 : PW B X 38 6 lv (st) h Q ↔ PW B X 38 7 lv (.int 0 :: st) h Q := PW_step rfl rfl rfl rfl
theorem u_38_7 : PW B X 38 7 [v0, v1, v2, v3, v4, v5, v6, v7, v8, v9, v10] (.int x :: st) h Q ↔ PW B X 38 9 [v0, v1, v2, v3, v4, v5, v6, pm_c v7, some (.int x), v9, v10] (st) h Q := PW_step rfl rfl rfl rfl
theorem u_38_9 : PW B X 38 9 [v0, v1, v2, v3, v4, v5, v6, v7, some (.int x), v9, v10] (st) h Q ↔ PW B X 38 11 [v0, v1, v2, v3, v4, v5, v6, v7, some (.int x), v9, v10] (.int x :: st) h Q := PW_step rfl rfl rfl rfl
theorem u_38_11 : PW B X 38 11 lv (st) h Q ↔ PW B X 38 13 lv (.int 100 :: st) h Q := PW_step rfl rfl rfl rfl
theorem u_38_13 : PW B X 38 13 lv (.int y :: .int x :: st) h Q ↔ (if y ≤ x then PW B X 38 44 lv (st) h Q else PW B X 38 16 lv (st) h Q) := PW_icmp rfl rfl pm_c_ge
theorem u_38_16 : PW B X 38 16 [v0, v1, v2, v3, v4, v5, some (.long z), v7, v8, v9, v10] (st) h Q ↔ PW B X 38 18 [v0, v1, v2, v3, v4, v5, some (.long z), v7, v8, v9, v10] (.long z :: st) h Q := PW_step rfl rfl rfl rfl
theorem u_38_18 : PW B X 38 18 lv (st) h Q ↔ PW B X 38 19 lv (.long 0 :: st) h Q := PW_step rfl rfl rfl rfl
theorem u_38_19 : PW B X 38 19 lv (.long w :: .long z :: st) h Q ↔ PW B X 38 20 lv (.int (lg_cmp z w) :: st) h Q := PW_step rfl rfl rfl rfl
theorem u_38_20 : PW B X 38 20 lv (.int x :: st) h Q ↔ (if x = 0 then PW B X 38 44 lv (st) h Q else PW B X 38 23 lv (st) h Q) := PW_if rfl rfl pm_c_eq
theorem u_38_23 : PW B X 38 23 [v0, v1, v2, v3, some (.long z), v5, v6, v7, v8, v9, v10] (st) h Q ↔ PW B X 38 25 [v0, v1, v2, v3, some (.long z), v5, v6, v7, v8, v9, v10] (.long z :: st) h Q := PW_step rfl rfl rfl rfl
theorem u_38_25 : PW B X 38 25 [v0, v1, v2, v3, v4, v5, some (.long z), v7, v8, v9, v10] (st) h Q ↔ PW B X 38 27 [v0, v1, v2, v3, v4, v5, some (.long z), v7, v8, v9, v10] (.long z :: st) h Q := PW_step rfl rfl rfl rfl
theorem u_38_27 : PW B X 38 27 lv (.long w :: .long z :: st) h Q ↔ (¬ w = 0 ∧ PW B X 38 28 lv (.long (z - z / w * w) :: st) h Q) := PW_lrem rfl
theorem u_38_28 : PW B X 38 28 [v0, v1, v2, v3, v4, v5, v6, v7, v8, v9, v10] (.long z :: st) h Q ↔ PW B X 38 30 [v0, v1, v2, v3, v4, v5, v6, v7, pm_c v8, some (.long z), none] (st) h Q := PW_step rfl rfl rfl rfl
theorem u_38_30 : PW B X 38 30 [v0, v1, v2, v3, v4, v5, some (.long z), v7, v8, v9, v10] (st) h Q ↔ PW B X 38 32 [v0, v1, v2, v3, v4, v5, some (.long z), v7, v8, v9, v10] (.long z :: st) h Q := PW_step rfl rfl rfl rfl
theorem u_38_32 : PW B X 38 32 [v0, v1, v2, v3, v4, v5, v6, v7, v8, v9, v10] (.long z :: st) h Q ↔ PW B X 38 34 [v0, v1, v2, pm_c v3, some (.long z), none, v6, v7, v8, v9, v10] (st) h Q := PW_step rfl rfl rfl rfl
theorem u_38_34 : PW B X 38 34 [v0, v1, v2, v3, v4, v5, v6, v7, v8, some (.long z), v10] (st) h Q ↔ PW B X 38 36 [v0, v1, v2, v3, v4, v5, v6, v7, v8, some (.long z), v10] (.long z :: st) h Q := PW_step rfl rfl rfl rfl
theorem u_38_36 : PW B X 38 36 [v0, v1, v2, v3, v4, v5, v6, v7, v8, v9, v10] (.long z :: st) h Q ↔ PW B X 38 38 [v0, v1, v2, v3, v4, pm_c v5, some (.long z), none, v8, v9, v10] (st) h Q := PW_step rfl rfl rfl rfl
theorem u_38_38 : PW B X 38 38 [v0, v1, v2, v3, v4, v5, v6, v7, some (.int x), v9, v10] (st) h Q ↔ PW B X 38 41 [v0, v1, v2, v3, v4, v5, v6, pm_c v7, some (.int (x + 1)), v9, v10] (st) h Q := PW_step rfl rfl rfl rfl
theorem u_38_41 : PW B X 38 41 lv (st) h Q ↔ PW B X 38 9 lv (st) h Q := PW_step rfl rfl rfl rfl
theorem u_38_44 : PW B X 38 44 [v0, v1, v2, v3, some (.long z), v5, v6, v7, v8, v9, v10] (st) h Q ↔ PW B X 38 46 [v0, v1, v2, v3, some (.long z), v5, v6, v7, v8, v9, v10] (.long z :: st) h Q := PW_step rfl rfl rfl rfl
theorem u_38_46 : PW B X 38 46 lv ([.long z]) h Q ↔ Q (some (.long z)) h := PW_ret rfl rfl
-- 63 BM_caseOf
theorem u_63_0 : PW B X 63 0 [some (.ref a), v1, v2, v3, v4] (st) h Q ↔ PW B X 63 1 [some (.ref a), v1, v2, v3, v4] (.ref a :: st) h Q := PW_step rfl rfl rfl rfl
theorem u_63_0n : PW B X 63 0 [some .null, v1, v2, v3, v4] (st) h Q ↔ PW B X 63 1 [some .null, v1, v2, v3, v4] (.null :: st) h Q := PW_step rfl rfl rfl rfl
theorem u_63_1 : PW B X 63 1 [v0, some (.int x), v2, v3, v4] (st) h Q ↔ PW B X 63 2 [v0, some (.int x), v2, v3, v4] (.int x :: st) h Q := PW_step rfl rfl rfl rfl
theorem u_63_2 : PW B X 63 2 lv (.int q0 :: .ref a :: st) h Q ↔ (pm_w st ≤ 8 ∧ pm_io B h a 0 = true ∧ PW B X 15 0 [some (.ref a), some (.int q0)] [] h (fun r h' => PW B X 63 5 lv (r.toList ++ st) h' Q)) := PW_cv (y := 15) (as := [.int q0]) (rest := st) rfl rfl rfl rfl rfl ⟨Nat.le_of_ble_eq_true rfl, Nat.le_of_ble_eq_true rfl, Nat.le_of_ble_eq_true rfl⟩
theorem u_63_5 : PW B X 63 5 [v0, v1, v2, v3, v4] (.ref a :: st) h Q ↔ PW B X 63 7 [v0, v1, v2, pm_c v3, some (.ref a)] (st) h Q := PW_step rfl rfl rfl rfl
theorem u_63_5n : PW B X 63 5 [v0, v1, v2, v3, v4] (.null :: st) h Q ↔ PW B X 63 7 [v0, v1, v2, pm_c v3, some .null] (st) h Q := PW_step rfl rfl rfl rfl
theorem u_63_7 : PW B X 63 7 [v0, v1, v2, v3, some (.ref a)] (st) h Q ↔ PW B X 63 9 [v0, v1, v2, v3, some (.ref a)] (.ref a :: st) h Q := PW_step rfl rfl rfl rfl
theorem u_63_7n : PW B X 63 7 [v0, v1, v2, v3, some .null] (st) h Q ↔ PW B X 63 9 [v0, v1, v2, v3, some .null] (.null :: st) h Q := PW_step rfl rfl rfl rfl
theorem u_63_9 : PW B X 63 9 lv (.ref a :: st) h Q ↔ PW B X 63 12 lv (st) h Q := PW_step rfl rfl rfl rfl
theorem u_63_9n : PW B X 63 9 lv (.null :: st) h Q ↔ PW B X 63 28 lv (st) h Q := PW_step rfl rfl rfl rfl
theorem u_63_12 : PW B X 63 12 [v0, v1, some (.int x), v3, v4] (st) h Q ↔ PW B X 63 13 [v0, v1, some (.int x), v3, v4] (.int x :: st) h Q := PW_step rfl rfl rfl rfl
theorem u_63_13 : PW B X 63 13 lv (.int q0 :: st) h Q ↔ (pm_w st ≤ 8 ∧ PW B X 17 0 [some (.int q0)] [] h (fun r h' => PW B X 63 16 lv (r.toList ++ st) h' Q)) := PW_cs (y := 17) (as := [.int q0]) (rest := st) rfl rfl rfl rfl rfl ⟨Nat.le_of_ble_eq_true rfl, Nat.le_of_ble_eq_true rfl, Nat.le_of_ble_eq_true rfl⟩
theorem u_63_16 : PW B X 63 16 lv (.int x :: st) h Q ↔ (if x = 0 then PW B X 63 28 lv (st) h Q else PW B X 63 19 lv (st) h Q) := PW_if rfl rfl pm_c_eq
theorem u_63_19 : PW B X 63 19 [v0, v1, v2, some (.int x), v4] (st) h Q ↔ PW B X 63 20 [v0, v1, v2, some (.int x), v4] (.int x :: st) h Q := PW_step rfl rfl rfl rfl
theorem u_63_20 : PW B X 63 20 lv (st) h Q ↔ PW B X 63 21 lv (.int 0 :: st) h Q := PW_step rfl rfl rfl rfl
theorem u_63_21 : PW B X 63 21 lv (st) h Q ↔ PW B X 63 22 lv (.int 1 :: st) h Q := PW_step rfl rfl rfl rfl
theorem u_63_22 : PW B X 63 22 lv (.int q2 :: .int q1 :: .int q0 :: st) h Q ↔ (pm_w st ≤ 8 ∧ PW B X 12 0 [some (.int q0), some (.int q1), some (.int q2)] [] h (fun r h' => PW B X 63 25 lv (r.toList ++ st) h' Q)) := PW_cs (y := 12) (as := [.int q0, .int q1, .int q2]) (rest := st) rfl rfl rfl rfl rfl ⟨Nat.le_of_ble_eq_true rfl, Nat.le_of_ble_eq_true rfl, Nat.le_of_ble_eq_true rfl⟩
theorem u_63_25 : PW B X 63 25 lv (.int x :: st) h Q ↔ (if ¬ x = 0 then PW B X 63 30 lv (st) h Q else PW B X 63 28 lv (st) h Q) := PW_if rfl rfl pm_c_ne
theorem u_63_28 : PW B X 63 28 lv (st) h Q ↔ PW B X 63 29 lv (.int (-1) :: st) h Q := PW_step rfl rfl rfl rfl
theorem u_63_29 : PW B X 63 29 lv ([.int x]) h Q ↔ Q (some (.int x)) h := PW_ret rfl rfl
theorem u_63_30 : PW B X 63 30 [some (.ref a), v1, v2, v3, v4] (st) h Q ↔ PW B X 63 31 [some (.ref a), v1, v2, v3, v4] (.ref a :: st) h Q := PW_step rfl rfl rfl rfl
theorem u_63_30n : PW B X 63 30 [some .null, v1, v2, v3, v4] (st) h Q ↔ PW B X 63 31 [some .null, v1, v2, v3, v4] (.null :: st) h Q := PW_step rfl rfl rfl rfl
theorem u_63_31 : PW B X 63 31 lv (.ref a :: st) h Q ↔ pm_O (pm_gf (pm_at B h a) 0 7) (fun v => PW B X 63 34 lv (v :: st) h Q) := PW_getf rfl rfl
theorem u_63_34 : PW B X 63 34 [some (.ref a), v1, v2, v3, v4] (st) h Q ↔ PW B X 63 35 [some (.ref a), v1, v2, v3, v4] (.ref a :: st) h Q := PW_step rfl rfl rfl rfl
theorem u_63_34n : PW B X 63 34 [some .null, v1, v2, v3, v4] (st) h Q ↔ PW B X 63 35 [some .null, v1, v2, v3, v4] (.null :: st) h Q := PW_step rfl rfl rfl rfl
theorem u_63_35 : PW B X 63 35 lv (.ref a :: st) h Q ↔ pm_O (pm_gf (pm_at B h a) 0 4) (fun v => PW B X 63 38 lv (v :: st) h Q) := PW_getf rfl rfl
theorem u_63_38 : PW B X 63 38 [v0, v1, v2, v3, some (.ref a)] (st) h Q ↔ PW B X 63 40 [v0, v1, v2, v3, some (.ref a)] (.ref a :: st) h Q := PW_step rfl rfl rfl rfl
theorem u_63_38n : PW B X 63 38 [v0, v1, v2, v3, some .null] (st) h Q ↔ PW B X 63 40 [v0, v1, v2, v3, some .null] (.null :: st) h Q := PW_step rfl rfl rfl rfl
theorem u_63_40 : PW B X 63 40 [v0, v1, some (.int x), v3, v4] (st) h Q ↔ PW B X 63 41 [v0, v1, some (.int x), v3, v4] (.int x :: st) h Q := PW_step rfl rfl rfl rfl
theorem u_63_41 : PW B X 63 41 lv (.int q2 :: .ref r1 :: .ref r0 :: .ref a :: st) h Q ↔ (pm_w st ≤ 8 ∧ pm_io B h a 6 = true ∧ PW B X 36 0 [some (.ref a), some (.ref r0), some (.ref r1), some (.int q2), none] [] h (fun r h' => PW B X 63 44 lv (r.toList ++ st) h' Q)) := PW_cv (y := 36) (as := [.ref r0, .ref r1, .int q2]) (rest := st) rfl rfl rfl rfl rfl ⟨Nat.le_of_ble_eq_true rfl, Nat.le_of_ble_eq_true rfl, Nat.le_of_ble_eq_true rfl⟩
theorem u_63_44 : PW B X 63 44 [v0, v1, v2, some (.int x), v4] (st) h Q ↔ PW B X 63 45 [v0, v1, v2, some (.int x), v4] (.int x :: st) h Q := PW_step rfl rfl rfl rfl
theorem u_63_45 : PW B X 63 45 lv (.int x :: st) h Q ↔ (if ¬ x = 0 then PW B X 63 58 lv (st) h Q else PW B X 63 48 lv (st) h Q) := PW_if rfl rfl pm_c_ne
theorem u_63_48 : PW B X 63 48 [some (.ref a), v1, v2, v3, v4] (st) h Q ↔ PW B X 63 49 [some (.ref a), v1, v2, v3, v4] (.ref a :: st) h Q := PW_step rfl rfl rfl rfl
theorem u_63_48n : PW B X 63 48 [some .null, v1, v2, v3, v4] (st) h Q ↔ PW B X 63 49 [some .null, v1, v2, v3, v4] (.null :: st) h Q := PW_step rfl rfl rfl rfl
theorem u_63_49 : PW B X 63 49 lv (.ref a :: st) h Q ↔ pm_O (pm_gf (pm_at B h a) 0 7) (fun v => PW B X 63 52 lv (v :: st) h Q) := PW_getf rfl rfl
theorem u_63_52 : PW B X 63 52 lv (.ref a :: st) h Q ↔ pm_O (pm_gf (pm_at B h a) 6 5) (fun v => PW B X 63 55 lv (v :: st) h Q) := PW_getf rfl rfl
theorem u_63_55 : PW B X 63 55 lv (st) h Q ↔ PW B X 63 65 lv (st) h Q := PW_step rfl rfl rfl rfl
theorem u_63_58 : PW B X 63 58 [some (.ref a), v1, v2, v3, v4] (st) h Q ↔ PW B X 63 59 [some (.ref a), v1, v2, v3, v4] (.ref a :: st) h Q := PW_step rfl rfl rfl rfl
theorem u_63_58n : PW B X 63 58 [some .null, v1, v2, v3, v4] (st) h Q ↔ PW B X 63 59 [some .null, v1, v2, v3, v4] (.null :: st) h Q := PW_step rfl rfl rfl rfl
theorem u_63_59 : PW B X 63 59 lv (.ref a :: st) h Q ↔ pm_O (pm_gf (pm_at B h a) 0 7) (fun v => PW B X 63 62 lv (v :: st) h Q) := PW_getf rfl rfl
theorem u_63_62 : PW B X 63 62 lv (.ref a :: st) h Q ↔ pm_O (pm_gf (pm_at B h a) 6 6) (fun v => PW B X 63 65 lv (v :: st) h Q) := PW_getf rfl rfl
theorem u_63_65 : PW B X 63 65 lv ([.int x]) h Q ↔ Q (some (.int x)) h := PW_ret rfl rfl
-- 64 BM_locked
theorem u_64_0 : PW B X 64 0 [some (.ref a)] (st) h Q ↔ PW B X 64 1 [some (.ref a)] (.ref a :: st) h Q := PW_step rfl rfl rfl rfl
theorem u_64_0n : PW B X 64 0 [some .null] (st) h Q ↔ PW B X 64 1 [some .null] (.null :: st) h Q := PW_step rfl rfl rfl rfl
theorem u_64_1 : PW B X 64 1 lv (st) h Q ↔ PW B X 64 2 lv (.int 1 :: st) h Q := PW_step rfl rfl rfl rfl
theorem u_64_2 : PW B X 64 2 lv (.int q0 :: .ref a :: st) h Q ↔ (pm_w st ≤ 8 ∧ pm_io B h a 0 = true ∧ PW B X 65 0 [some (.ref a), some (.int q0), none] [] h (fun r h' => PW B X 64 5 lv (r.toList ++ st) h' Q)) := PW_cv (y := 65) (as := [.int q0]) (rest := st) rfl rfl rfl rfl rfl ⟨Nat.le_of_ble_eq_true rfl, Nat.le_of_ble_eq_true rfl, Nat.le_of_ble_eq_true rfl⟩
theorem u_64_5 : PW B X 64 5 [some (.ref a)] (st) h Q ↔ PW B X 64 6 [some (.ref a)] (.ref a :: st) h Q := PW_step rfl rfl rfl rfl
theorem u_64_5n : PW B X 64 5 [some .null] (st) h Q ↔ PW B X 64 6 [some .null] (.null :: st) h Q := PW_step rfl rfl rfl rfl
theorem u_64_6 : PW B X 64 6 lv (st) h Q ↔ PW B X 64 7 lv (.int 0 :: st) h Q := PW_step rfl rfl rfl rfl
theorem u_64_7 : PW B X 64 7 lv (.int q0 :: .ref a :: st) h Q ↔ (pm_w st ≤ 8 ∧ pm_io B h a 0 = true ∧ PW B X 65 0 [some (.ref a), some (.int q0), none] [] h (fun r h' => PW B X 64 10 lv (r.toList ++ st) h' Q)) := PW_cv (y := 65) (as := [.int q0]) (rest := st) rfl rfl rfl rfl rfl ⟨Nat.le_of_ble_eq_true rfl, Nat.le_of_ble_eq_true rfl, Nat.le_of_ble_eq_true rfl⟩
theorem u_64_10 : PW B X 64 10 lv (.int y :: .int x :: st) h Q ↔ (if x ≤ y then PW B X 64 17 lv (st) h Q else PW B X 64 13 lv (st) h Q) := PW_icmp rfl rfl pm_c_le
theorem u_64_13 : PW B X 64 13 lv (st) h Q ↔ PW B X 64 14 lv (.int 1 :: st) h Q := PW_step rfl rfl rfl rfl
theorem u_64_14 : PW B X 64 14 lv (st) h Q ↔ PW B X 64 18 lv (st) h Q := PW_step rfl rfl rfl rfl
theorem u_64_17 : PW B X 64 17 lv (st) h Q ↔ PW B X 64 18 lv (.int 0 :: st) h Q := PW_step rfl rfl rfl rfl
theorem u_64_18 (hx : narrow .boolean (.int x) = .int x) : PW B X 64 18 lv ([.int x]) h Q ↔ Q (some (.int x)) h := PW_bret rfl rfl (by simp) hx
theorem u_64_18_0 : PW B X 64 18 lv ([.int 0]) h Q ↔ Q (some (.int 0)) h := u_64_18 rfl
theorem u_64_18_1 : PW B X 64 18 lv ([.int 1]) h Q ↔ Q (some (.int 1)) h := u_64_18 rfl
-- 65 BM_rank
theorem u_65_0 : PW B X 65 0 [some (.ref a), v1, v2] (st) h Q ↔ PW B X 65 1 [some (.ref a), v1, v2] (.ref a :: st) h Q := PW_step rfl rfl rfl rfl
theorem u_65_0n : PW B X 65 0 [some .null, v1, v2] (st) h Q ↔ PW B X 65 1 [some .null, v1, v2] (.null :: st) h Q := PW_step rfl rfl rfl rfl
theorem u_65_1 : PW B X 65 1 lv (.ref a :: st) h Q ↔ pm_O (pm_gf (pm_at B h a) 0 2) (fun v => PW B X 65 4 lv (v :: st) h Q) := PW_getf rfl rfl
theorem u_65_4 : PW B X 65 4 lv (.ref a :: st) h Q ↔ (pm_w st ≤ 8 ∧ pm_io B h a 1 = true ∧ PW B X 66 0 [some (.ref a)] [] h (fun r h' => PW B X 65 7 lv (r.toList ++ st) h' Q)) := PW_cv (y := 66) (as := []) (rest := st) rfl rfl rfl rfl rfl ⟨Nat.le_of_ble_eq_true rfl, Nat.le_of_ble_eq_true rfl, Nat.le_of_ble_eq_true rfl⟩
theorem u_65_7 : PW B X 65 7 [some (.ref a), v1, v2] (st) h Q ↔ PW B X 65 8 [some (.ref a), v1, v2] (.ref a :: st) h Q := PW_step rfl rfl rfl rfl
theorem u_65_7n : PW B X 65 7 [some .null, v1, v2] (st) h Q ↔ PW B X 65 8 [some .null, v1, v2] (.null :: st) h Q := PW_step rfl rfl rfl rfl
theorem u_65_8 : PW B X 65 8 lv (st) h Q ↔ PW B X 65 9 lv (.int 0 :: st) h Q := PW_step rfl rfl rfl rfl
theorem u_65_9 : PW B X 65 9 lv (.int q0 :: .ref a :: st) h Q ↔ (pm_w st ≤ 8 ∧ pm_io B h a 0 = true ∧ PW B X 67 0 [some (.ref a), some (.int q0), none, none, none, none, none] [] h (fun r h' => PW B X 65 12 lv (r.toList ++ st) h' Q)) := PW_cv (y := 67) (as := [.int q0]) (rest := st) rfl rfl rfl rfl rfl ⟨Nat.le_of_ble_eq_true rfl, Nat.le_of_ble_eq_true rfl, Nat.le_of_ble_eq_true rfl⟩
theorem u_65_12 : PW B X 65 12 lv (.int x :: st) h Q ↔ (if x = 0 then PW B X 65 19 lv (st) h Q else PW B X 65 15 lv (st) h Q) := PW_if rfl rfl pm_c_eq
theorem u_65_15 : PW B X 65 15 lv (st) h Q ↔ PW B X 65 16 lv (.int 1 :: st) h Q := PW_step rfl rfl rfl rfl
theorem u_65_16 : PW B X 65 16 lv (st) h Q ↔ PW B X 65 20 lv (st) h Q := PW_step rfl rfl rfl rfl
theorem u_65_19 : PW B X 65 19 lv (st) h Q ↔ PW B X 65 20 lv (.int 0 :: st) h Q := PW_step rfl rfl rfl rfl
theorem u_65_20 : PW B X 65 20 [some (.ref a), v1, v2] (st) h Q ↔ PW B X 65 21 [some (.ref a), v1, v2] (.ref a :: st) h Q := PW_step rfl rfl rfl rfl
theorem u_65_20n : PW B X 65 20 [some .null, v1, v2] (st) h Q ↔ PW B X 65 21 [some .null, v1, v2] (.null :: st) h Q := PW_step rfl rfl rfl rfl
theorem u_65_21 : PW B X 65 21 lv (st) h Q ↔ PW B X 65 22 lv (.int 1 :: st) h Q := PW_step rfl rfl rfl rfl
theorem u_65_22 : PW B X 65 22 lv (.int q0 :: .ref a :: st) h Q ↔ (pm_w st ≤ 8 ∧ pm_io B h a 0 = true ∧ PW B X 67 0 [some (.ref a), some (.int q0), none, none, none, none, none] [] h (fun r h' => PW B X 65 25 lv (r.toList ++ st) h' Q)) := PW_cv (y := 67) (as := [.int q0]) (rest := st) rfl rfl rfl rfl rfl ⟨Nat.le_of_ble_eq_true rfl, Nat.le_of_ble_eq_true rfl, Nat.le_of_ble_eq_true rfl⟩
theorem u_65_25 : PW B X 65 25 lv (.int x :: st) h Q ↔ (if x = 0 then PW B X 65 32 lv (st) h Q else PW B X 65 28 lv (st) h Q) := PW_if rfl rfl pm_c_eq
theorem u_65_28 : PW B X 65 28 lv (st) h Q ↔ PW B X 65 29 lv (.int 1 :: st) h Q := PW_step rfl rfl rfl rfl
theorem u_65_29 : PW B X 65 29 lv (st) h Q ↔ PW B X 65 33 lv (st) h Q := PW_step rfl rfl rfl rfl
theorem u_65_32 : PW B X 65 32 lv (st) h Q ↔ PW B X 65 33 lv (.int 0 :: st) h Q := PW_step rfl rfl rfl rfl
theorem u_65_33 : PW B X 65 33 lv (.int y :: .int x :: st) h Q ↔ PW B X 65 34 lv (.int (x + y) :: st) h Q := PW_step rfl rfl rfl rfl
theorem u_65_34 : PW B X 65 34 [v0, v1, v2] (.int x :: st) h Q ↔ PW B X 65 35 [v0, pm_c v1, some (.int x)] (st) h Q := PW_step rfl rfl rfl rfl
theorem u_65_35 : PW B X 65 35 [v0, v1, some (.int x)] (st) h Q ↔ PW B X 65 36 [v0, v1, some (.int x)] (.int x :: st) h Q := PW_step rfl rfl rfl rfl
theorem u_65_36 : PW B X 65 36 [v0, some (.int x), v2] (st) h Q ↔ PW B X 65 37 [v0, some (.int x), v2] (.int x :: st) h Q := PW_step rfl rfl rfl rfl
theorem u_65_37 : PW B X 65 37 lv (.int x :: st) h Q ↔ (if x = 0 then PW B X 65 50 lv (st) h Q else PW B X 65 40 lv (st) h Q) := PW_if rfl rfl pm_c_eq
theorem u_65_40 : PW B X 65 40 [some (.ref a), v1, v2] (st) h Q ↔ PW B X 65 41 [some (.ref a), v1, v2] (.ref a :: st) h Q := PW_step rfl rfl rfl rfl
theorem u_65_40n : PW B X 65 40 [some .null, v1, v2] (st) h Q ↔ PW B X 65 41 [some .null, v1, v2] (.null :: st) h Q := PW_step rfl rfl rfl rfl
theorem u_65_41 : PW B X 65 41 lv (.ref a :: st) h Q ↔ pm_O (pm_gf (pm_at B h a) 0 2) (fun v => PW B X 65 44 lv (v :: st) h Q) := PW_getf rfl rfl
theorem u_65_44 : PW B X 65 44 lv (.ref a :: st) h Q ↔ pm_O (pm_gf (pm_at B h a) 1 2) (fun v => PW B X 65 47 lv (v :: st) h Q) := PW_getf rfl rfl
theorem u_65_47 : PW B X 65 47 lv (st) h Q ↔ PW B X 65 57 lv (st) h Q := PW_step rfl rfl rfl rfl
theorem u_65_50 : PW B X 65 50 [some (.ref a), v1, v2] (st) h Q ↔ PW B X 65 51 [some (.ref a), v1, v2] (.ref a :: st) h Q := PW_step rfl rfl rfl rfl
theorem u_65_50n : PW B X 65 50 [some .null, v1, v2] (st) h Q ↔ PW B X 65 51 [some .null, v1, v2] (.null :: st) h Q := PW_step rfl rfl rfl rfl
theorem u_65_51 : PW B X 65 51 lv (.ref a :: st) h Q ↔ pm_O (pm_gf (pm_at B h a) 0 2) (fun v => PW B X 65 54 lv (v :: st) h Q) := PW_getf rfl rfl
theorem u_65_54 : PW B X 65 54 lv (.ref a :: st) h Q ↔ pm_O (pm_gf (pm_at B h a) 1 3) (fun v => PW B X 65 57 lv (v :: st) h Q) := PW_getf rfl rfl
theorem u_65_57 : PW B X 65 57 lv (.int y :: .int x :: st) h Q ↔ PW B X 65 58 lv (.int (x + y) :: st) h Q := PW_step rfl rfl rfl rfl
theorem u_65_58 : PW B X 65 58 lv ([.int x]) h Q ↔ Q (some (.int x)) h := PW_ret rfl rfl
-- 67 BM_addDifferences
theorem u_67_0 : PW B X 67 0 lv (st) h Q ↔ PW B X 67 1 lv (.null :: st) h Q := PW_step rfl rfl rfl rfl
theorem u_67_1 : PW B X 67 1 [v0, v1, v2, v3, v4, v5, v6] (.ref a :: st) h Q ↔ PW B X 67 2 [v0, pm_c v1, some (.ref a), v3, v4, v5, v6] (st) h Q := PW_step rfl rfl rfl rfl
theorem u_67_1n : PW B X 67 1 [v0, v1, v2, v3, v4, v5, v6] (.null :: st) h Q ↔ PW B X 67 2 [v0, pm_c v1, some .null, v3, v4, v5, v6] (st) h Q := PW_step rfl rfl rfl rfl
theorem u_67_2 : PW B X 67 2 lv (st) h Q ↔ PW B X 67 3 lv (.int 0 :: st) h Q := PW_step rfl rfl rfl rfl
theorem u_67_3 : PW B X 67 3 [v0, v1, v2, v3, v4, v5, v6] (.int x :: st) h Q ↔ PW B X 67 4 [v0, v1, pm_c v2, some (.int x), v4, v5, v6] (st) h Q := PW_step rfl rfl rfl rfl
theorem u_67_4 : PW B X 67 4 [v0, v1, v2, some (.int x), v4, v5, v6] (st) h Q ↔ PW B X 67 5 [v0, v1, v2, some (.int x), v4, v5, v6] (.int x :: st) h Q := PW_step rfl rfl rfl rfl
theorem u_67_5 : PW B X 67 5 [some (.ref a), v1, v2, v3, v4, v5, v6] (st) h Q ↔ PW B X 67 6 [some (.ref a), v1, v2, v3, v4, v5, v6] (.ref a :: st) h Q := PW_step rfl rfl rfl rfl
theorem u_67_5n : PW B X 67 5 [some .null, v1, v2, v3, v4, v5, v6] (st) h Q ↔ PW B X 67 6 [some .null, v1, v2, v3, v4, v5, v6] (.null :: st) h Q := PW_step rfl rfl rfl rfl
theorem u_67_6 : PW B X 67 6 lv (.ref a :: st) h Q ↔ pm_O (pm_gf (pm_at B h a) 0 1) (fun v => PW B X 67 9 lv (v :: st) h Q) := PW_getf rfl rfl
theorem u_67_9 : PW B X 67 9 lv (.int y :: .int x :: st) h Q ↔ (if y ≤ x then PW B X 67 104 lv (st) h Q else PW B X 67 12 lv (st) h Q) := PW_icmp rfl rfl pm_c_ge
theorem u_67_12 : PW B X 67 12 [some (.ref a), v1, v2, v3, v4, v5, v6] (st) h Q ↔ PW B X 67 13 [some (.ref a), v1, v2, v3, v4, v5, v6] (.ref a :: st) h Q := PW_step rfl rfl rfl rfl
theorem u_67_12n : PW B X 67 12 [some .null, v1, v2, v3, v4, v5, v6] (st) h Q ↔ PW B X 67 13 [some .null, v1, v2, v3, v4, v5, v6] (.null :: st) h Q := PW_step rfl rfl rfl rfl
theorem u_67_13 : PW B X 67 13 [v0, v1, v2, some (.int x), v4, v5, v6] (st) h Q ↔ PW B X 67 14 [v0, v1, v2, some (.int x), v4, v5, v6] (.int x :: st) h Q := PW_step rfl rfl rfl rfl
theorem u_67_14 : PW B X 67 14 lv (.int q0 :: .ref a :: st) h Q ↔ (pm_w st ≤ 8 ∧ pm_io B h a 0 = true ∧ PW B X 15 0 [some (.ref a), some (.int q0)] [] h (fun r h' => PW B X 67 17 lv (r.toList ++ st) h' Q)) := PW_cv (y := 15) (as := [.int q0]) (rest := st) rfl rfl rfl rfl rfl ⟨Nat.le_of_ble_eq_true rfl, Nat.le_of_ble_eq_true rfl, Nat.le_of_ble_eq_true rfl⟩
theorem u_67_17 : PW B X 67 17 [v0, v1, v2, v3, v4, v5, v6] (.ref a :: st) h Q ↔ PW B X 67 19 [v0, v1, v2, pm_c v3, some (.ref a), v5, v6] (st) h Q := PW_step rfl rfl rfl rfl
theorem u_67_17n : PW B X 67 17 [v0, v1, v2, v3, v4, v5, v6] (.null :: st) h Q ↔ PW B X 67 19 [v0, v1, v2, pm_c v3, some .null, v5, v6] (st) h Q := PW_step rfl rfl rfl rfl
theorem u_67_19 : PW B X 67 19 [v0, v1, v2, v3, some (.ref a), v5, v6] (st) h Q ↔ PW B X 67 21 [v0, v1, v2, v3, some (.ref a), v5, v6] (.ref a :: st) h Q := PW_step rfl rfl rfl rfl
theorem u_67_19n : PW B X 67 19 [v0, v1, v2, v3, some .null, v5, v6] (st) h Q ↔ PW B X 67 21 [v0, v1, v2, v3, some .null, v5, v6] (.null :: st) h Q := PW_step rfl rfl rfl rfl
theorem u_67_21 : PW B X 67 21 lv (.ref a :: st) h Q ↔ PW B X 67 24 lv (st) h Q := PW_step rfl rfl rfl rfl
theorem u_67_21n : PW B X 67 21 lv (.null :: st) h Q ↔ PW B X 67 98 lv (st) h Q := PW_step rfl rfl rfl rfl
theorem u_67_24 : PW B X 67 24 [v0, v1, v2, v3, some (.ref a), v5, v6] (st) h Q ↔ PW B X 67 26 [v0, v1, v2, v3, some (.ref a), v5, v6] (.ref a :: st) h Q := PW_step rfl rfl rfl rfl
theorem u_67_24n : PW B X 67 24 [v0, v1, v2, v3, some .null, v5, v6] (st) h Q ↔ PW B X 67 26 [v0, v1, v2, v3, some .null, v5, v6] (.null :: st) h Q := PW_step rfl rfl rfl rfl
theorem u_67_26 : PW B X 67 26 [v0, some (.int x), v2, v3, v4, v5, v6] (st) h Q ↔ PW B X 67 27 [v0, some (.int x), v2, v3, v4, v5, v6] (.int x :: st) h Q := PW_step rfl rfl rfl rfl
theorem u_67_27 : PW B X 67 27 lv (.int q0 :: .ref a :: st) h Q ↔ (pm_w st ≤ 8 ∧ pm_io B h a 9 = true ∧ PW B X 68 0 [some (.ref a), some (.int q0)] [] h (fun r h' => PW B X 67 30 lv (r.toList ++ st) h' Q)) := PW_cv (y := 68) (as := [.int q0]) (rest := st) rfl rfl rfl rfl rfl ⟨Nat.le_of_ble_eq_true rfl, Nat.le_of_ble_eq_true rfl, Nat.le_of_ble_eq_true rfl⟩
theorem u_67_30 : PW B X 67 30 lv (.int x :: st) h Q ↔ (if x = 0 then PW B X 67 98 lv (st) h Q else PW B X 67 33 lv (st) h Q) := PW_if rfl rfl pm_c_eq
theorem u_67_33 : PW B X 67 33 [v0, v1, some (.ref a), v3, v4, v5, v6] (st) h Q ↔ PW B X 67 34 [v0, v1, some (.ref a), v3, v4, v5, v6] (.ref a :: st) h Q := PW_step rfl rfl rfl rfl
theorem u_67_33n : PW B X 67 33 [v0, v1, some .null, v3, v4, v5, v6] (st) h Q ↔ PW B X 67 34 [v0, v1, some .null, v3, v4, v5, v6] (.null :: st) h Q := PW_step rfl rfl rfl rfl
theorem u_67_34 : PW B X 67 34 lv (.ref a :: st) h Q ↔ PW B X 67 40 lv (st) h Q := PW_step rfl rfl rfl rfl
theorem u_67_34n : PW B X 67 34 lv (.null :: st) h Q ↔ PW B X 67 37 lv (st) h Q := PW_step rfl rfl rfl rfl
theorem u_67_37 : PW B X 67 37 [v0, v1, v2, v3, some (.ref a), v5, v6] (st) h Q ↔ PW B X 67 39 [v0, v1, v2, v3, some (.ref a), v5, v6] (.ref a :: st) h Q := PW_step rfl rfl rfl rfl
theorem u_67_37n : PW B X 67 37 [v0, v1, v2, v3, some .null, v5, v6] (st) h Q ↔ PW B X 67 39 [v0, v1, v2, v3, some .null, v5, v6] (.null :: st) h Q := PW_step rfl rfl rfl rfl
theorem u_67_39 : PW B X 67 39 [v0, v1, v2, v3, v4, v5, v6] (.ref a :: st) h Q ↔ PW B X 67 40 [v0, pm_c v1, some (.ref a), v3, v4, v5, v6] (st) h Q := PW_step rfl rfl rfl rfl
theorem u_67_39n : PW B X 67 39 [v0, v1, v2, v3, v4, v5, v6] (.null :: st) h Q ↔ PW B X 67 40 [v0, pm_c v1, some .null, v3, v4, v5, v6] (st) h Q := PW_step rfl rfl rfl rfl
theorem u_67_40 : PW B X 67 40 [v0, v1, v2, v3, some (.ref a), v5, v6] (st) h Q ↔ PW B X 67 42 [v0, v1, v2, v3, some (.ref a), v5, v6] (.ref a :: st) h Q := PW_step rfl rfl rfl rfl
theorem u_67_40n : PW B X 67 40 [v0, v1, v2, v3, some .null, v5, v6] (st) h Q ↔ PW B X 67 42 [v0, v1, v2, v3, some .null, v5, v6] (.null :: st) h Q := PW_step rfl rfl rfl rfl
theorem u_67_42 : PW B X 67 42 lv (.ref a :: st) h Q ↔ pm_O (pm_gf (pm_at B h a) 9 0) (fun v => PW B X 67 45 lv (v :: st) h Q) := PW_getf rfl rfl
theorem u_67_45 : PW B X 67 45 [v0, v1, some (.ref a), v3, v4, v5, v6] (st) h Q ↔ PW B X 67 46 [v0, v1, some (.ref a), v3, v4, v5, v6] (.ref a :: st) h Q := PW_step rfl rfl rfl rfl
theorem u_67_45n : PW B X 67 45 [v0, v1, some .null, v3, v4, v5, v6] (st) h Q ↔ PW B X 67 46 [v0, v1, some .null, v3, v4, v5, v6] (.null :: st) h Q := PW_step rfl rfl rfl rfl
theorem u_67_46 : PW B X 67 46 lv (.ref a :: st) h Q ↔ pm_O (pm_gf (pm_at B h a) 9 0) (fun v => PW B X 67 49 lv (v :: st) h Q) := PW_getf rfl rfl
theorem u_67_49 : PW B X 67 49 lv (.int y :: .int x :: st) h Q ↔ PW B X 67 50 lv (.int (x - y) :: st) h Q := PW_step rfl rfl rfl rfl
theorem u_67_50 : PW B X 67 50 [v0, v1, v2, v3, v4, v5, v6] (.int x :: st) h Q ↔ PW B X 67 52 [v0, v1, v2, v3, pm_c v4, some (.int x), v6] (st) h Q := PW_step rfl rfl rfl rfl
theorem u_67_52 : PW B X 67 52 [v0, v1, v2, v3, some (.ref a), v5, v6] (st) h Q ↔ PW B X 67 54 [v0, v1, v2, v3, some (.ref a), v5, v6] (.ref a :: st) h Q := PW_step rfl rfl rfl rfl
theorem u_67_52n : PW B X 67 52 [v0, v1, v2, v3, some .null, v5, v6] (st) h Q ↔ PW B X 67 54 [v0, v1, v2, v3, some .null, v5, v6] (.null :: st) h Q := PW_step rfl rfl rfl rfl
theorem u_67_54 : PW B X 67 54 lv (.ref a :: st) h Q ↔ pm_O (pm_gf (pm_at B h a) 9 1) (fun v => PW B X 67 57 lv (v :: st) h Q) := PW_getf rfl rfl
theorem u_67_57 : PW B X 67 57 [v0, v1, some (.ref a), v3, v4, v5, v6] (st) h Q ↔ PW B X 67 58 [v0, v1, some (.ref a), v3, v4, v5, v6] (.ref a :: st) h Q := PW_step rfl rfl rfl rfl
theorem u_67_57n : PW B X 67 57 [v0, v1, some .null, v3, v4, v5, v6] (st) h Q ↔ PW B X 67 58 [v0, v1, some .null, v3, v4, v5, v6] (.null :: st) h Q := PW_step rfl rfl rfl rfl
theorem u_67_58 : PW B X 67 58 lv (.ref a :: st) h Q ↔ pm_O (pm_gf (pm_at B h a) 9 1) (fun v => PW B X 67 61 lv (v :: st) h Q) := PW_getf rfl rfl
theorem u_67_61 : PW B X 67 61 lv (.int y :: .int x :: st) h Q ↔ PW B X 67 62 lv (.int (x - y) :: st) h Q := PW_step rfl rfl rfl rfl
theorem u_67_62 : PW B X 67 62 [v0, v1, v2, v3, v4, v5, v6] (.int x :: st) h Q ↔ PW B X 67 64 [v0, v1, v2, v3, v4, pm_c v5, some (.int x)] (st) h Q := PW_step rfl rfl rfl rfl
theorem u_67_64 : PW B X 67 64 [some (.ref a), v1, v2, v3, v4, v5, v6] (st) h Q ↔ PW B X 67 65 [some (.ref a), v1, v2, v3, v4, v5, v6] (.ref a :: st) h Q := PW_step rfl rfl rfl rfl
theorem u_67_64n : PW B X 67 64 [some .null, v1, v2, v3, v4, v5, v6] (st) h Q ↔ PW B X 67 65 [some .null, v1, v2, v3, v4, v5, v6] (.null :: st) h Q := PW_step rfl rfl rfl rfl
theorem u_67_65 : PW B X 67 65 lv (.ref a :: st) h Q ↔ pm_O (pm_gf (pm_at B h a) 0 2) (fun v => PW B X 67 68 lv (v :: st) h Q) := PW_getf rfl rfl
theorem u_67_68 : PW B X 67 68 [v0, some (.int x), v2, v3, v4, v5, v6] (st) h Q ↔ PW B X 67 69 [v0, some (.int x), v2, v3, v4, v5, v6] (.int x :: st) h Q := PW_step rfl rfl rfl rfl
theorem u_67_69 : PW B X 67 69 lv (.int x :: st) h Q ↔ (if ¬ x = 0 then PW B X 67 79 lv (st) h Q else PW B X 67 72 lv (st) h Q) := PW_if rfl rfl pm_c_ne
theorem u_67_72 : PW B X 67 72 [v0, v1, v2, v3, v4, v5, some (.int x)] (st) h Q ↔ PW B X 67 74 [v0, v1, v2, v3, v4, v5, some (.int x)] (.int x :: st) h Q := PW_step rfl rfl rfl rfl
theorem u_67_74 : PW B X 67 74 lv (.int x :: st) h Q ↔ PW B X 67 75 lv (.int (-x) :: st) h Q := PW_step rfl rfl rfl rfl
theorem u_67_75 : PW B X 67 75 lv (.int x :: st) h Q ↔ PW B X 67 76 lv (.long x.toInt64 :: st) h Q := PW_step rfl rfl rfl rfl
theorem u_67_76 : PW B X 67 76 lv (st) h Q ↔ PW B X 67 82 lv (st) h Q := PW_step rfl rfl rfl rfl
theorem u_67_79 : PW B X 67 79 [v0, v1, v2, v3, v4, some (.int x), v6] (st) h Q ↔ PW B X 67 81 [v0, v1, v2, v3, v4, some (.int x), v6] (.int x :: st) h Q := PW_step rfl rfl rfl rfl
theorem u_67_81 : PW B X 67 81 lv (.int x :: st) h Q ↔ PW B X 67 82 lv (.long x.toInt64 :: st) h Q := PW_step rfl rfl rfl rfl
theorem u_67_82 : PW B X 67 82 [v0, some (.int x), v2, v3, v4, v5, v6] (st) h Q ↔ PW B X 67 83 [v0, some (.int x), v2, v3, v4, v5, v6] (.int x :: st) h Q := PW_step rfl rfl rfl rfl
theorem u_67_83 : PW B X 67 83 lv (.int x :: st) h Q ↔ (if ¬ x = 0 then PW B X 67 92 lv (st) h Q else PW B X 67 86 lv (st) h Q) := PW_if rfl rfl pm_c_ne
theorem u_67_86 : PW B X 67 86 [v0, v1, v2, v3, v4, some (.int x), v6] (st) h Q ↔ PW B X 67 88 [v0, v1, v2, v3, v4, some (.int x), v6] (.int x :: st) h Q := PW_step rfl rfl rfl rfl
theorem u_67_88 : PW B X 67 88 lv (.int x :: st) h Q ↔ PW B X 67 89 lv (.long x.toInt64 :: st) h Q := PW_step rfl rfl rfl rfl
theorem u_67_89 : PW B X 67 89 lv (st) h Q ↔ PW B X 67 95 lv (st) h Q := PW_step rfl rfl rfl rfl
theorem u_67_92 : PW B X 67 92 [v0, v1, v2, v3, v4, v5, some (.int x)] (st) h Q ↔ PW B X 67 94 [v0, v1, v2, v3, v4, v5, some (.int x)] (.int x :: st) h Q := PW_step rfl rfl rfl rfl
theorem u_67_94 : PW B X 67 94 lv (.int x :: st) h Q ↔ PW B X 67 95 lv (.long x.toInt64 :: st) h Q := PW_step rfl rfl rfl rfl
theorem u_67_95 : PW B X 67 95 lv (.long p1 :: .long p0 :: .ref a :: st) h Q ↔ (pm_w st ≤ 8 ∧ pm_io B h a 1 = true ∧ PW B X 69 0 [some (.ref a), some (.long p0), none, some (.long p1), none] [] h (fun r h' => PW B X 67 98 lv (r.toList ++ st) h' Q)) := PW_cv (y := 69) (as := [.long p0, .long p1]) (rest := st) rfl rfl rfl rfl rfl ⟨Nat.le_of_ble_eq_true rfl, Nat.le_of_ble_eq_true rfl, Nat.le_of_ble_eq_true rfl⟩
theorem u_67_98 : PW B X 67 98 [v0, v1, v2, some (.int x), v4, v5, v6] (st) h Q ↔ PW B X 67 101 [v0, v1, pm_c v2, some (.int (x + 1)), v4, v5, v6] (st) h Q := PW_step rfl rfl rfl rfl
theorem u_67_101 : PW B X 67 101 lv (st) h Q ↔ PW B X 67 4 lv (st) h Q := PW_step rfl rfl rfl rfl
theorem u_67_104 : PW B X 67 104 [v0, v1, some (.ref a), v3, v4, v5, v6] (st) h Q ↔ PW B X 67 105 [v0, v1, some (.ref a), v3, v4, v5, v6] (.ref a :: st) h Q := PW_step rfl rfl rfl rfl
theorem u_67_104n : PW B X 67 104 [v0, v1, some .null, v3, v4, v5, v6] (st) h Q ↔ PW B X 67 105 [v0, v1, some .null, v3, v4, v5, v6] (.null :: st) h Q := PW_step rfl rfl rfl rfl
theorem u_67_105 : PW B X 67 105 lv (.ref a :: st) h Q ↔ PW B X 67 108 lv (st) h Q := PW_step rfl rfl rfl rfl
theorem u_67_105n : PW B X 67 105 lv (.null :: st) h Q ↔ PW B X 67 112 lv (st) h Q := PW_step rfl rfl rfl rfl
theorem u_67_108 : PW B X 67 108 lv (st) h Q ↔ PW B X 67 109 lv (.int 1 :: st) h Q := PW_step rfl rfl rfl rfl
theorem u_67_109 : PW B X 67 109 lv (st) h Q ↔ PW B X 67 113 lv (st) h Q := PW_step rfl rfl rfl rfl
theorem u_67_112 : PW B X 67 112 lv (st) h Q ↔ PW B X 67 113 lv (.int 0 :: st) h Q := PW_step rfl rfl rfl rfl
theorem u_67_113 (hx : narrow .boolean (.int x) = .int x) : PW B X 67 113 lv ([.int x]) h Q ↔ Q (some (.int x)) h := PW_bret rfl rfl (by simp) hx
theorem u_67_113_0 : PW B X 67 113 lv ([.int 0]) h Q ↔ Q (some (.int 0)) h := u_67_113 rfl
theorem u_67_113_1 : PW B X 67 113 lv ([.int 1]) h Q ↔ Q (some (.int 1)) h := u_67_113 rfl
-- 70 BM_direction
theorem u_70_0 : PW B X 70 0 [some (.ref a), v1, v2, v3, v4, v5, v6, v7, v8] (st) h Q ↔ PW B X 70 1 [some (.ref a), v1, v2, v3, v4, v5, v6, v7, v8] (.ref a :: st) h Q := PW_step rfl rfl rfl rfl
theorem u_70_0n : PW B X 70 0 [some .null, v1, v2, v3, v4, v5, v6, v7, v8] (st) h Q ↔ PW B X 70 1 [some .null, v1, v2, v3, v4, v5, v6, v7, v8] (.null :: st) h Q := PW_step rfl rfl rfl rfl
theorem u_70_1 : PW B X 70 1 [v0, some (.int x), v2, v3, v4, v5, v6, v7, v8] (st) h Q ↔ PW B X 70 2 [v0, some (.int x), v2, v3, v4, v5, v6, v7, v8] (.int x :: st) h Q := PW_step rfl rfl rfl rfl
theorem u_70_2 : PW B X 70 2 lv (.int q0 :: .ref a :: st) h Q ↔ (pm_w st ≤ 8 ∧ pm_io B h a 0 = true ∧ PW B X 15 0 [some (.ref a), some (.int q0)] [] h (fun r h' => PW B X 70 5 lv (r.toList ++ st) h' Q)) := PW_cv (y := 15) (as := [.int q0]) (rest := st) rfl rfl rfl rfl rfl ⟨Nat.le_of_ble_eq_true rfl, Nat.le_of_ble_eq_true rfl, Nat.le_of_ble_eq_true rfl⟩
theorem u_70_5 : PW B X 70 5 [v0, v1, v2, v3, v4, v5, v6, v7, v8] (.ref a :: st) h Q ↔ PW B X 70 6 [v0, v1, pm_c v2, some (.ref a), v4, v5, v6, v7, v8] (st) h Q := PW_step rfl rfl rfl rfl
theorem u_70_5n : PW B X 70 5 [v0, v1, v2, v3, v4, v5, v6, v7, v8] (.null :: st) h Q ↔ PW B X 70 6 [v0, v1, pm_c v2, some .null, v4, v5, v6, v7, v8] (st) h Q := PW_step rfl rfl rfl rfl
theorem u_70_6 : PW B X 70 6 [some (.ref a), v1, v2, v3, v4, v5, v6, v7, v8] (st) h Q ↔ PW B X 70 7 [some (.ref a), v1, v2, v3, v4, v5, v6, v7, v8] (.ref a :: st) h Q := PW_step rfl rfl rfl rfl
theorem u_70_6n : PW B X 70 6 [some .null, v1, v2, v3, v4, v5, v6, v7, v8] (st) h Q ↔ PW B X 70 7 [some .null, v1, v2, v3, v4, v5, v6, v7, v8] (.null :: st) h Q := PW_step rfl rfl rfl rfl
theorem u_70_7 : PW B X 70 7 lv (.ref a :: st) h Q ↔ (pm_w st ≤ 8 ∧ pm_io B h a 0 = true ∧ PW B X 71 0 [some (.ref a), none, none] [] h (fun r h' => PW B X 70 10 lv (r.toList ++ st) h' Q)) := PW_cv (y := 71) (as := []) (rest := st) rfl rfl rfl rfl rfl ⟨Nat.le_of_ble_eq_true rfl, Nat.le_of_ble_eq_true rfl, Nat.le_of_ble_eq_true rfl⟩
theorem u_70_10 : PW B X 70 10 [v0, v1, v2, v3, v4, v5, v6, v7, v8] (.ref a :: st) h Q ↔ PW B X 70 12 [v0, v1, v2, pm_c v3, some (.ref a), v5, v6, v7, v8] (st) h Q := PW_step rfl rfl rfl rfl
theorem u_70_10n : PW B X 70 10 [v0, v1, v2, v3, v4, v5, v6, v7, v8] (.null :: st) h Q ↔ PW B X 70 12 [v0, v1, v2, pm_c v3, some .null, v5, v6, v7, v8] (st) h Q := PW_step rfl rfl rfl rfl
theorem u_70_12 : PW B X 70 12 [v0, v1, v2, some (.ref a), v4, v5, v6, v7, v8] (st) h Q ↔ PW B X 70 13 [v0, v1, v2, some (.ref a), v4, v5, v6, v7, v8] (.ref a :: st) h Q := PW_step rfl rfl rfl rfl
theorem u_70_12n : PW B X 70 12 [v0, v1, v2, some .null, v4, v5, v6, v7, v8] (st) h Q ↔ PW B X 70 13 [v0, v1, v2, some .null, v4, v5, v6, v7, v8] (.null :: st) h Q := PW_step rfl rfl rfl rfl
theorem u_70_13 : PW B X 70 13 lv (.ref a :: st) h Q ↔ PW B X 70 16 lv (st) h Q := PW_step rfl rfl rfl rfl
theorem u_70_13n : PW B X 70 13 lv (.null :: st) h Q ↔ PW B X 70 30 lv (st) h Q := PW_step rfl rfl rfl rfl
theorem u_70_16 : PW B X 70 16 [v0, v1, v2, v3, some (.ref a), v5, v6, v7, v8] (st) h Q ↔ PW B X 70 18 [v0, v1, v2, v3, some (.ref a), v5, v6, v7, v8] (.ref a :: st) h Q := PW_step rfl rfl rfl rfl
theorem u_70_16n : PW B X 70 16 [v0, v1, v2, v3, some .null, v5, v6, v7, v8] (st) h Q ↔ PW B X 70 18 [v0, v1, v2, v3, some .null, v5, v6, v7, v8] (.null :: st) h Q := PW_step rfl rfl rfl rfl
theorem u_70_18 : PW B X 70 18 lv (.ref a :: st) h Q ↔ PW B X 70 21 lv (st) h Q := PW_step rfl rfl rfl rfl
theorem u_70_18n : PW B X 70 18 lv (.null :: st) h Q ↔ PW B X 70 30 lv (st) h Q := PW_step rfl rfl rfl rfl
theorem u_70_21 : PW B X 70 21 [v0, v1, some (.int x), v3, v4, v5, v6, v7, v8] (st) h Q ↔ PW B X 70 22 [v0, v1, some (.int x), v3, v4, v5, v6, v7, v8] (.int x :: st) h Q := PW_step rfl rfl rfl rfl
theorem u_70_22 : PW B X 70 22 lv (st) h Q ↔ PW B X 70 23 lv (.int 0 :: st) h Q := PW_step rfl rfl rfl rfl
theorem u_70_23 : PW B X 70 23 lv (st) h Q ↔ PW B X 70 24 lv (.int 1 :: st) h Q := PW_step rfl rfl rfl rfl
theorem u_70_24 : PW B X 70 24 lv (.int q2 :: .int q1 :: .int q0 :: st) h Q ↔ (pm_w st ≤ 8 ∧ PW B X 12 0 [some (.int q0), some (.int q1), some (.int q2)] [] h (fun r h' => PW B X 70 27 lv (r.toList ++ st) h' Q)) := PW_cs (y := 12) (as := [.int q0, .int q1, .int q2]) (rest := st) rfl rfl rfl rfl rfl ⟨Nat.le_of_ble_eq_true rfl, Nat.le_of_ble_eq_true rfl, Nat.le_of_ble_eq_true rfl⟩
theorem u_70_27 : PW B X 70 27 lv (.int x :: st) h Q ↔ (if ¬ x = 0 then PW B X 70 32 lv (st) h Q else PW B X 70 30 lv (st) h Q) := PW_if rfl rfl pm_c_ne
theorem u_70_30 : PW B X 70 30 lv (st) h Q ↔ PW B X 70 31 lv (.int (-1) :: st) h Q := PW_step rfl rfl rfl rfl
theorem u_70_31 : PW B X 70 31 lv ([.int x]) h Q ↔ Q (some (.int x)) h := PW_ret rfl rfl
theorem u_70_32 : PW B X 70 32 [v0, v1, v2, some (.ref a), v4, v5, v6, v7, v8] (st) h Q ↔ PW B X 70 33 [v0, v1, v2, some (.ref a), v4, v5, v6, v7, v8] (.ref a :: st) h Q := PW_step rfl rfl rfl rfl
theorem u_70_32n : PW B X 70 32 [v0, v1, v2, some .null, v4, v5, v6, v7, v8] (st) h Q ↔ PW B X 70 33 [v0, v1, v2, some .null, v4, v5, v6, v7, v8] (.null :: st) h Q := PW_step rfl rfl rfl rfl
theorem u_70_33 : PW B X 70 33 lv (.ref a :: st) h Q ↔ pm_O (pm_gf (pm_at B h a) 9 0) (fun v => PW B X 70 36 lv (v :: st) h Q) := PW_getf rfl rfl
theorem u_70_36 : PW B X 70 36 [v0, v1, v2, v3, some (.ref a), v5, v6, v7, v8] (st) h Q ↔ PW B X 70 38 [v0, v1, v2, v3, some (.ref a), v5, v6, v7, v8] (.ref a :: st) h Q := PW_step rfl rfl rfl rfl
theorem u_70_36n : PW B X 70 36 [v0, v1, v2, v3, some .null, v5, v6, v7, v8] (st) h Q ↔ PW B X 70 38 [v0, v1, v2, v3, some .null, v5, v6, v7, v8] (.null :: st) h Q := PW_step rfl rfl rfl rfl
theorem u_70_38 : PW B X 70 38 lv (.ref a :: st) h Q ↔ pm_O (pm_gf (pm_at B h a) 9 0) (fun v => PW B X 70 41 lv (v :: st) h Q) := PW_getf rfl rfl
theorem u_70_41 : PW B X 70 41 lv (.int y :: .int x :: st) h Q ↔ PW B X 70 42 lv (.int (x - y) :: st) h Q := PW_step rfl rfl rfl rfl
theorem u_70_42 : PW B X 70 42 [v0, v1, v2, v3, v4, v5, v6, v7, v8] (.int x :: st) h Q ↔ PW B X 70 44 [v0, v1, v2, v3, pm_c v4, some (.int x), v6, v7, v8] (st) h Q := PW_step rfl rfl rfl rfl
theorem u_70_44 : PW B X 70 44 [v0, v1, v2, some (.ref a), v4, v5, v6, v7, v8] (st) h Q ↔ PW B X 70 45 [v0, v1, v2, some (.ref a), v4, v5, v6, v7, v8] (.ref a :: st) h Q := PW_step rfl rfl rfl rfl
theorem u_70_44n : PW B X 70 44 [v0, v1, v2, some .null, v4, v5, v6, v7, v8] (st) h Q ↔ PW B X 70 45 [v0, v1, v2, some .null, v4, v5, v6, v7, v8] (.null :: st) h Q := PW_step rfl rfl rfl rfl
theorem u_70_45 : PW B X 70 45 lv (.ref a :: st) h Q ↔ pm_O (pm_gf (pm_at B h a) 9 1) (fun v => PW B X 70 48 lv (v :: st) h Q) := PW_getf rfl rfl
theorem u_70_48 : PW B X 70 48 [v0, v1, v2, v3, some (.ref a), v5, v6, v7, v8] (st) h Q ↔ PW B X 70 50 [v0, v1, v2, v3, some (.ref a), v5, v6, v7, v8] (.ref a :: st) h Q := PW_step rfl rfl rfl rfl
theorem u_70_48n : PW B X 70 48 [v0, v1, v2, v3, some .null, v5, v6, v7, v8] (st) h Q ↔ PW B X 70 50 [v0, v1, v2, v3, some .null, v5, v6, v7, v8] (.null :: st) h Q := PW_step rfl rfl rfl rfl
theorem u_70_50 : PW B X 70 50 lv (.ref a :: st) h Q ↔ pm_O (pm_gf (pm_at B h a) 9 1) (fun v => PW B X 70 53 lv (v :: st) h Q) := PW_getf rfl rfl
theorem u_70_53 : PW B X 70 53 lv (.int y :: .int x :: st) h Q ↔ PW B X 70 54 lv (.int (x - y) :: st) h Q := PW_step rfl rfl rfl rfl
theorem u_70_54 : PW B X 70 54 [v0, v1, v2, v3, v4, v5, v6, v7, v8] (.int x :: st) h Q ↔ PW B X 70 56 [v0, v1, v2, v3, v4, pm_c v5, some (.int x), v7, v8] (st) h Q := PW_step rfl rfl rfl rfl
theorem u_70_56 : PW B X 70 56 [v0, v1, v2, v3, v4, some (.int x), v6, v7, v8] (st) h Q ↔ PW B X 70 58 [v0, v1, v2, v3, v4, some (.int x), v6, v7, v8] (.int x :: st) h Q := PW_step rfl rfl rfl rfl
theorem u_70_58 : PW B X 70 58 lv (.int x :: st) h Q ↔ (pm_w st ≤ 8 ∧ PW B X 70 61 lv (.int (if 0 ≤ x then x else 0 - x) :: st) h Q) := PW_math rfl rfl rfl rfl
theorem u_70_61 : PW B X 70 61 lv (.int x :: st) h Q ↔ PW B X 70 62 lv (.long x.toInt64 :: st) h Q := PW_step rfl rfl rfl rfl
theorem u_70_62 : PW B X 70 62 [v0, v1, v2, v3, v4, v5, some (.int x), v7, v8] (st) h Q ↔ PW B X 70 64 [v0, v1, v2, v3, v4, v5, some (.int x), v7, v8] (.int x :: st) h Q := PW_step rfl rfl rfl rfl
theorem u_70_64 : PW B X 70 64 lv (.int x :: st) h Q ↔ (pm_w st ≤ 8 ∧ PW B X 70 67 lv (.int (if 0 ≤ x then x else 0 - x) :: st) h Q) := PW_math rfl rfl rfl rfl
theorem u_70_67 : PW B X 70 67 lv (.int x :: st) h Q ↔ PW B X 70 68 lv (.long x.toInt64 :: st) h Q := PW_step rfl rfl rfl rfl
theorem u_70_68 : PW B X 70 68 lv (.long p1 :: .long p0 :: st) h Q ↔ (pm_w st ≤ 8 ∧ PW B X 38 0 [some (.long p0), none, some (.long p1), none, none, none, none, none, none, none, none] [] h (fun r h' => PW B X 70 71 lv (r.toList ++ st) h' Q)) := PW_cs (y := 38) (as := [.long p0, .long p1]) (rest := st) rfl rfl rfl rfl rfl ⟨Nat.le_of_ble_eq_true rfl, Nat.le_of_ble_eq_true rfl, Nat.le_of_ble_eq_true rfl⟩
theorem u_70_71 : PW B X 70 71 [v0, v1, v2, v3, v4, v5, v6, v7, v8] (.long z :: st) h Q ↔ PW B X 70 73 [v0, v1, v2, v3, v4, v5, pm_c v6, some (.long z), none] (st) h Q := PW_step rfl rfl rfl rfl
theorem u_70_73 : PW B X 70 73 [v0, v1, v2, v3, v4, v5, v6, some (.long z), v8] (st) h Q ↔ PW B X 70 75 [v0, v1, v2, v3, v4, v5, v6, some (.long z), v8] (.long z :: st) h Q := PW_step rfl rfl rfl rfl
theorem u_70_75 : PW B X 70 75 lv (st) h Q ↔ PW B X 70 76 lv (.long 0 :: st) h Q := PW_step rfl rfl rfl rfl
theorem u_70_76 : PW B X 70 76 lv (.long w :: .long z :: st) h Q ↔ PW B X 70 77 lv (.int (lg_cmp z w) :: st) h Q := PW_step rfl rfl rfl rfl
theorem u_70_77 : PW B X 70 77 lv (.int x :: st) h Q ↔ (if ¬ x = 0 then PW B X 70 82 lv (st) h Q else PW B X 70 80 lv (st) h Q) := PW_if rfl rfl pm_c_ne
theorem u_70_80 : PW B X 70 80 lv (st) h Q ↔ PW B X 70 81 lv (.int 0 :: st) h Q := PW_step rfl rfl rfl rfl
theorem u_70_81 : PW B X 70 81 lv ([.int x]) h Q ↔ Q (some (.int x)) h := PW_ret rfl rfl
theorem u_70_82 : PW B X 70 82 [v0, v1, some (.int x), v3, v4, v5, v6, v7, v8] (st) h Q ↔ PW B X 70 83 [v0, v1, some (.int x), v3, v4, v5, v6, v7, v8] (.int x :: st) h Q := PW_step rfl rfl rfl rfl
theorem u_70_83 : PW B X 70 83 lv (.int x :: st) h Q ↔ (if ¬ x = 0 then PW B X 70 91 lv (st) h Q else PW B X 70 86 lv (st) h Q) := PW_if rfl rfl pm_c_ne
theorem u_70_86 : PW B X 70 86 [v0, v1, v2, v3, v4, some (.int x), v6, v7, v8] (st) h Q ↔ PW B X 70 88 [v0, v1, v2, v3, v4, some (.int x), v6, v7, v8] (.int x :: st) h Q := PW_step rfl rfl rfl rfl
theorem u_70_88 : PW B X 70 88 lv (st) h Q ↔ PW B X 70 93 lv (st) h Q := PW_step rfl rfl rfl rfl
theorem u_70_91 : PW B X 70 91 [v0, v1, v2, v3, v4, v5, some (.int x), v7, v8] (st) h Q ↔ PW B X 70 93 [v0, v1, v2, v3, v4, v5, some (.int x), v7, v8] (.int x :: st) h Q := PW_step rfl rfl rfl rfl
theorem u_70_93 : PW B X 70 93 lv (.int x :: st) h Q ↔ PW B X 70 94 lv (.long x.toInt64 :: st) h Q := PW_step rfl rfl rfl rfl
theorem u_70_94 : PW B X 70 94 [v0, v1, v2, v3, v4, v5, v6, some (.long z), v8] (st) h Q ↔ PW B X 70 96 [v0, v1, v2, v3, v4, v5, v6, some (.long z), v8] (.long z :: st) h Q := PW_step rfl rfl rfl rfl
theorem u_70_96 : PW B X 70 96 lv (.long w :: .long z :: st) h Q ↔ (¬ w = 0 ∧ PW B X 70 97 lv (.long (z / w) :: st) h Q) := PW_ldiv rfl
theorem u_70_97 : PW B X 70 97 lv (.long z :: st) h Q ↔ PW B X 70 98 lv (.int z.toInt32 :: st) h Q := PW_step rfl rfl rfl rfl
theorem u_70_98 : PW B X 70 98 lv ([.int x]) h Q ↔ Q (some (.int x)) h := PW_ret rfl rfl
-- 71 BM_firstHeldOnBoth
theorem u_71_0 : PW B X 71 0 lv (st) h Q ↔ PW B X 71 1 lv (.int 0 :: st) h Q := PW_step rfl rfl rfl rfl
theorem u_71_1 : PW B X 71 1 [v0, v1, v2] (.int x :: st) h Q ↔ PW B X 71 2 [pm_c v0, some (.int x), v2] (st) h Q := PW_step rfl rfl rfl rfl
theorem u_71_2 : PW B X 71 2 [v0, some (.int x), v2] (st) h Q ↔ PW B X 71 3 [v0, some (.int x), v2] (.int x :: st) h Q := PW_step rfl rfl rfl rfl
theorem u_71_3 : PW B X 71 3 [some (.ref a), v1, v2] (st) h Q ↔ PW B X 71 4 [some (.ref a), v1, v2] (.ref a :: st) h Q := PW_step rfl rfl rfl rfl
theorem u_71_3n : PW B X 71 3 [some .null, v1, v2] (st) h Q ↔ PW B X 71 4 [some .null, v1, v2] (.null :: st) h Q := PW_step rfl rfl rfl rfl
theorem u_71_4 : PW B X 71 4 lv (.ref a :: st) h Q ↔ pm_O (pm_gf (pm_at B h a) 0 1) (fun v => PW B X 71 7 lv (v :: st) h Q) := PW_getf rfl rfl
theorem u_71_7 : PW B X 71 7 lv (.int y :: .int x :: st) h Q ↔ (if y ≤ x then PW B X 71 42 lv (st) h Q else PW B X 71 10 lv (st) h Q) := PW_icmp rfl rfl pm_c_ge
theorem u_71_10 : PW B X 71 10 [some (.ref a), v1, v2] (st) h Q ↔ PW B X 71 11 [some (.ref a), v1, v2] (.ref a :: st) h Q := PW_step rfl rfl rfl rfl
theorem u_71_10n : PW B X 71 10 [some .null, v1, v2] (st) h Q ↔ PW B X 71 11 [some .null, v1, v2] (.null :: st) h Q := PW_step rfl rfl rfl rfl
theorem u_71_11 : PW B X 71 11 [v0, some (.int x), v2] (st) h Q ↔ PW B X 71 12 [v0, some (.int x), v2] (.int x :: st) h Q := PW_step rfl rfl rfl rfl
theorem u_71_12 : PW B X 71 12 lv (.int q0 :: .ref a :: st) h Q ↔ (pm_w st ≤ 8 ∧ pm_io B h a 0 = true ∧ PW B X 15 0 [some (.ref a), some (.int q0)] [] h (fun r h' => PW B X 71 15 lv (r.toList ++ st) h' Q)) := PW_cv (y := 15) (as := [.int q0]) (rest := st) rfl rfl rfl rfl rfl ⟨Nat.le_of_ble_eq_true rfl, Nat.le_of_ble_eq_true rfl, Nat.le_of_ble_eq_true rfl⟩
theorem u_71_15 : PW B X 71 15 [v0, v1, v2] (.ref a :: st) h Q ↔ PW B X 71 16 [v0, pm_c v1, some (.ref a)] (st) h Q := PW_step rfl rfl rfl rfl
theorem u_71_15n : PW B X 71 15 [v0, v1, v2] (.null :: st) h Q ↔ PW B X 71 16 [v0, pm_c v1, some .null] (st) h Q := PW_step rfl rfl rfl rfl
theorem u_71_16 : PW B X 71 16 [v0, v1, some (.ref a)] (st) h Q ↔ PW B X 71 17 [v0, v1, some (.ref a)] (.ref a :: st) h Q := PW_step rfl rfl rfl rfl
theorem u_71_16n : PW B X 71 16 [v0, v1, some .null] (st) h Q ↔ PW B X 71 17 [v0, v1, some .null] (.null :: st) h Q := PW_step rfl rfl rfl rfl
theorem u_71_17 : PW B X 71 17 lv (.ref a :: st) h Q ↔ PW B X 71 20 lv (st) h Q := PW_step rfl rfl rfl rfl
theorem u_71_17n : PW B X 71 17 lv (.null :: st) h Q ↔ PW B X 71 36 lv (st) h Q := PW_step rfl rfl rfl rfl
theorem u_71_20 : PW B X 71 20 [v0, v1, some (.ref a)] (st) h Q ↔ PW B X 71 21 [v0, v1, some (.ref a)] (.ref a :: st) h Q := PW_step rfl rfl rfl rfl
theorem u_71_20n : PW B X 71 20 [v0, v1, some .null] (st) h Q ↔ PW B X 71 21 [v0, v1, some .null] (.null :: st) h Q := PW_step rfl rfl rfl rfl
theorem u_71_21 : PW B X 71 21 lv (.ref a :: st) h Q ↔ pm_O (pm_gf (pm_at B h a) 9 2) (fun v => PW B X 71 24 lv (v :: st) h Q) := PW_getf rfl rfl
theorem u_71_24 : PW B X 71 24 lv (.int x :: st) h Q ↔ (if x = 0 then PW B X 71 36 lv (st) h Q else PW B X 71 27 lv (st) h Q) := PW_if rfl rfl pm_c_eq
theorem u_71_27 : PW B X 71 27 [v0, v1, some (.ref a)] (st) h Q ↔ PW B X 71 28 [v0, v1, some (.ref a)] (.ref a :: st) h Q := PW_step rfl rfl rfl rfl
theorem u_71_27n : PW B X 71 27 [v0, v1, some .null] (st) h Q ↔ PW B X 71 28 [v0, v1, some .null] (.null :: st) h Q := PW_step rfl rfl rfl rfl
theorem u_71_28 : PW B X 71 28 lv (.ref a :: st) h Q ↔ pm_O (pm_gf (pm_at B h a) 9 3) (fun v => PW B X 71 31 lv (v :: st) h Q) := PW_getf rfl rfl
theorem u_71_31 : PW B X 71 31 lv (.int x :: st) h Q ↔ (if x = 0 then PW B X 71 36 lv (st) h Q else PW B X 71 34 lv (st) h Q) := PW_if rfl rfl pm_c_eq
theorem u_71_34 : PW B X 71 34 [v0, v1, some (.ref a)] (st) h Q ↔ PW B X 71 35 [v0, v1, some (.ref a)] (.ref a :: st) h Q := PW_step rfl rfl rfl rfl
theorem u_71_34n : PW B X 71 34 [v0, v1, some .null] (st) h Q ↔ PW B X 71 35 [v0, v1, some .null] (.null :: st) h Q := PW_step rfl rfl rfl rfl
theorem u_71_35 : PW B X 71 35 lv ([.ref a]) h Q ↔ Q (some (.ref a)) h := PW_ret rfl rfl
theorem u_71_35n : PW B X 71 35 lv ([.null]) h Q ↔ Q (some .null) h := PW_ret rfl rfl
theorem u_71_36 : PW B X 71 36 [v0, some (.int x), v2] (st) h Q ↔ PW B X 71 39 [pm_c v0, some (.int (x + 1)), v2] (st) h Q := PW_step rfl rfl rfl rfl
theorem u_71_39 : PW B X 71 39 lv (st) h Q ↔ PW B X 71 2 lv (st) h Q := PW_step rfl rfl rfl rfl
theorem u_71_42 : PW B X 71 42 lv (st) h Q ↔ PW B X 71 43 lv (.null :: st) h Q := PW_step rfl rfl rfl rfl
theorem u_71_43 : PW B X 71 43 lv ([.ref a]) h Q ↔ Q (some (.ref a)) h := PW_ret rfl rfl
theorem u_71_43n : PW B X 71 43 lv ([.null]) h Q ↔ Q (some .null) h := PW_ret rfl rfl
-- 72 BM_joint
theorem u_72_0 : PW B X 72 0 [some (.ref a), v1, v2, v3, v4, v5] (st) h Q ↔ PW B X 72 1 [some (.ref a), v1, v2, v3, v4, v5] (.ref a :: st) h Q := PW_step rfl rfl rfl rfl
theorem u_72_0n : PW B X 72 0 [some .null, v1, v2, v3, v4, v5] (st) h Q ↔ PW B X 72 1 [some .null, v1, v2, v3, v4, v5] (.null :: st) h Q := PW_step rfl rfl rfl rfl
theorem u_72_1 : PW B X 72 1 [v0, some (.int x), v2, v3, v4, v5] (st) h Q ↔ PW B X 72 2 [v0, some (.int x), v2, v3, v4, v5] (.int x :: st) h Q := PW_step rfl rfl rfl rfl
theorem u_72_2 : PW B X 72 2 lv (.int q0 :: .ref a :: st) h Q ↔ (pm_w st ≤ 8 ∧ pm_io B h a 0 = true ∧ PW B X 15 0 [some (.ref a), some (.int q0)] [] h (fun r h' => PW B X 72 5 lv (r.toList ++ st) h' Q)) := PW_cv (y := 15) (as := [.int q0]) (rest := st) rfl rfl rfl rfl rfl ⟨Nat.le_of_ble_eq_true rfl, Nat.le_of_ble_eq_true rfl, Nat.le_of_ble_eq_true rfl⟩
theorem u_72_5 : PW B X 72 5 [v0, v1, v2, v3, v4, v5] (.ref a :: st) h Q ↔ PW B X 72 7 [v0, v1, v2, v3, pm_c v4, some (.ref a)] (st) h Q := PW_step rfl rfl rfl rfl
theorem u_72_5n : PW B X 72 5 [v0, v1, v2, v3, v4, v5] (.null :: st) h Q ↔ PW B X 72 7 [v0, v1, v2, v3, pm_c v4, some .null] (st) h Q := PW_step rfl rfl rfl rfl
theorem u_72_7 : PW B X 72 7 [v0, v1, v2, v3, v4, some (.ref a)] (st) h Q ↔ PW B X 72 9 [v0, v1, v2, v3, v4, some (.ref a)] (.ref a :: st) h Q := PW_step rfl rfl rfl rfl
theorem u_72_7n : PW B X 72 7 [v0, v1, v2, v3, v4, some .null] (st) h Q ↔ PW B X 72 9 [v0, v1, v2, v3, v4, some .null] (.null :: st) h Q := PW_step rfl rfl rfl rfl
theorem u_72_9 : PW B X 72 9 lv (.ref a :: st) h Q ↔ PW B X 72 12 lv (st) h Q := PW_step rfl rfl rfl rfl
theorem u_72_9n : PW B X 72 9 lv (.null :: st) h Q ↔ PW B X 72 43 lv (st) h Q := PW_step rfl rfl rfl rfl
theorem u_72_12 : PW B X 72 12 [v0, v1, some (.int x), v3, v4, v5] (st) h Q ↔ PW B X 72 13 [v0, v1, some (.int x), v3, v4, v5] (.int x :: st) h Q := PW_step rfl rfl rfl rfl
theorem u_72_13 : PW B X 72 13 lv (st) h Q ↔ PW B X 72 14 lv (.int 0 :: st) h Q := PW_step rfl rfl rfl rfl
theorem u_72_14 : PW B X 72 14 lv (st) h Q ↔ PW B X 72 16 lv (.int 1000000 :: st) h Q := PW_step rfl rfl rfl rfl
theorem u_72_16 : PW B X 72 16 lv (.int q2 :: .int q1 :: .int q0 :: st) h Q ↔ (pm_w st ≤ 8 ∧ PW B X 12 0 [some (.int q0), some (.int q1), some (.int q2)] [] h (fun r h' => PW B X 72 19 lv (r.toList ++ st) h' Q)) := PW_cs (y := 12) (as := [.int q0, .int q1, .int q2]) (rest := st) rfl rfl rfl rfl rfl ⟨Nat.le_of_ble_eq_true rfl, Nat.le_of_ble_eq_true rfl, Nat.le_of_ble_eq_true rfl⟩
theorem u_72_19 : PW B X 72 19 lv (.int x :: st) h Q ↔ (if x = 0 then PW B X 72 43 lv (st) h Q else PW B X 72 22 lv (st) h Q) := PW_if rfl rfl pm_c_eq
theorem u_72_22 : PW B X 72 22 [v0, v1, v2, some (.int x), v4, v5] (st) h Q ↔ PW B X 72 23 [v0, v1, v2, some (.int x), v4, v5] (.int x :: st) h Q := PW_step rfl rfl rfl rfl
theorem u_72_23 : PW B X 72 23 lv (st) h Q ↔ PW B X 72 26 lv (.int (-10000) :: st) h Q := PW_step rfl rfl rfl rfl
theorem u_72_26 : PW B X 72 26 lv (st) h Q ↔ PW B X 72 29 lv (.int 10000 :: st) h Q := PW_step rfl rfl rfl rfl
theorem u_72_29 : PW B X 72 29 lv (.int q2 :: .int q1 :: .int q0 :: st) h Q ↔ (pm_w st ≤ 8 ∧ PW B X 12 0 [some (.int q0), some (.int q1), some (.int q2)] [] h (fun r h' => PW B X 72 32 lv (r.toList ++ st) h' Q)) := PW_cs (y := 12) (as := [.int q0, .int q1, .int q2]) (rest := st) rfl rfl rfl rfl rfl ⟨Nat.le_of_ble_eq_true rfl, Nat.le_of_ble_eq_true rfl, Nat.le_of_ble_eq_true rfl⟩
theorem u_72_32 : PW B X 72 32 lv (.int x :: st) h Q ↔ (if x = 0 then PW B X 72 43 lv (st) h Q else PW B X 72 35 lv (st) h Q) := PW_if rfl rfl pm_c_eq
theorem u_72_35 : PW B X 72 35 [v0, v1, v2, v3, some (.int x), v5] (st) h Q ↔ PW B X 72 37 [v0, v1, v2, v3, some (.int x), v5] (.int x :: st) h Q := PW_step rfl rfl rfl rfl
theorem u_72_37 : PW B X 72 37 lv (.int q0 :: st) h Q ↔ (pm_w st ≤ 8 ∧ PW B X 73 0 [some (.int q0)] [] h (fun r h' => PW B X 72 40 lv (r.toList ++ st) h' Q)) := PW_cs (y := 73) (as := [.int q0]) (rest := st) rfl rfl rfl rfl rfl ⟨Nat.le_of_ble_eq_true rfl, Nat.le_of_ble_eq_true rfl, Nat.le_of_ble_eq_true rfl⟩
theorem u_72_40 : PW B X 72 40 lv (.int x :: st) h Q ↔ (if ¬ x = 0 then PW B X 72 45 lv (st) h Q else PW B X 72 43 lv (st) h Q) := PW_if rfl rfl pm_c_ne
theorem u_72_43 : PW B X 72 43 lv (st) h Q ↔ PW B X 72 44 lv (.int 0 :: st) h Q := PW_step rfl rfl rfl rfl
theorem u_72_44 (hx : narrow .boolean (.int x) = .int x) : PW B X 72 44 lv ([.int x]) h Q ↔ Q (some (.int x)) h := PW_bret rfl rfl (by simp) hx
theorem u_72_44_0 : PW B X 72 44 lv ([.int 0]) h Q ↔ Q (some (.int 0)) h := u_72_44 rfl
theorem u_72_44_1 : PW B X 72 44 lv ([.int 1]) h Q ↔ Q (some (.int 1)) h := u_72_44 rfl
theorem u_72_45 : PW B X 72 45 [v0, v1, v2, v3, v4, some (.ref a)] (st) h Q ↔ PW B X 72 47 [v0, v1, v2, v3, v4, some (.ref a)] (.ref a :: st) h Q := PW_step rfl rfl rfl rfl
theorem u_72_45n : PW B X 72 45 [v0, v1, v2, v3, v4, some .null] (st) h Q ↔ PW B X 72 47 [v0, v1, v2, v3, v4, some .null] (.null :: st) h Q := PW_step rfl rfl rfl rfl
theorem u_72_47 : PW B X 72 47 [v0, v1, some (.int x), v3, v4, v5] (st) h Q ↔ PW B X 72 48 [v0, v1, some (.int x), v3, v4, v5] (.int x :: st) h Q := PW_step rfl rfl rfl rfl
theorem u_72_48 : PW B X 72 48 lv (v :: .ref a :: st) h Q ↔ pm_O (pm_pf (pm_at B h a) 9 6 v) (fun e => PW B X 72 51 lv (st) (pm_set B h a e) Q) := PW_putf rfl rfl
theorem u_72_51 : PW B X 72 51 [v0, v1, v2, v3, v4, some (.ref a)] (st) h Q ↔ PW B X 72 53 [v0, v1, v2, v3, v4, some (.ref a)] (.ref a :: st) h Q := PW_step rfl rfl rfl rfl
theorem u_72_51n : PW B X 72 51 [v0, v1, v2, v3, v4, some .null] (st) h Q ↔ PW B X 72 53 [v0, v1, v2, v3, v4, some .null] (.null :: st) h Q := PW_step rfl rfl rfl rfl
theorem u_72_53 : PW B X 72 53 [v0, v1, v2, some (.int x), v4, v5] (st) h Q ↔ PW B X 72 54 [v0, v1, v2, some (.int x), v4, v5] (.int x :: st) h Q := PW_step rfl rfl rfl rfl
theorem u_72_54 : PW B X 72 54 lv (v :: .ref a :: st) h Q ↔ pm_O (pm_pf (pm_at B h a) 9 7 v) (fun e => PW B X 72 57 lv (st) (pm_set B h a e) Q) := PW_putf rfl rfl
theorem u_72_57 : PW B X 72 57 [v0, v1, v2, v3, v4, some (.ref a)] (st) h Q ↔ PW B X 72 59 [v0, v1, v2, v3, v4, some (.ref a)] (.ref a :: st) h Q := PW_step rfl rfl rfl rfl
theorem u_72_57n : PW B X 72 57 [v0, v1, v2, v3, v4, some .null] (st) h Q ↔ PW B X 72 59 [v0, v1, v2, v3, v4, some .null] (.null :: st) h Q := PW_step rfl rfl rfl rfl
theorem u_72_59 : PW B X 72 59 [v0, v1, v2, v3, some (.int x), v5] (st) h Q ↔ PW B X 72 61 [v0, v1, v2, v3, some (.int x), v5] (.int x :: st) h Q := PW_step rfl rfl rfl rfl
theorem u_72_61 : PW B X 72 61 lv (v :: .ref a :: st) h Q ↔ pm_O (pm_pf (pm_at B h a) 9 8 v) (fun e => PW B X 72 64 lv (st) (pm_set B h a e) Q) := PW_putf rfl rfl
theorem u_72_64 : PW B X 72 64 lv (st) h Q ↔ PW B X 72 65 lv (.int 1 :: st) h Q := PW_step rfl rfl rfl rfl
theorem u_72_65 (hx : narrow .boolean (.int x) = .int x) : PW B X 72 65 lv ([.int x]) h Q ↔ Q (some (.int x)) h := PW_bret rfl rfl (by simp) hx
theorem u_72_65_0 : PW B X 72 65 lv ([.int 0]) h Q ↔ Q (some (.int 0)) h := u_72_65 rfl
theorem u_72_65_1 : PW B X 72 65 lv ([.int 1]) h Q ↔ Q (some (.int 1)) h := u_72_65 rfl
-- 73 BM_isWarmth
theorem u_73_0 : PW B X 73 0 [some (.int x)] (st) h Q ↔ PW B X 73 1 [some (.int x)] (.int x :: st) h Q := PW_step rfl rfl rfl rfl
theorem u_73_1 : PW B X 73 1 lv (st) h Q ↔ PW B X 73 4 lv (.int (-600) :: st) h Q := PW_step rfl rfl rfl rfl
theorem u_73_4 : PW B X 73 4 lv (st) h Q ↔ PW B X 73 7 lv (.int 900 :: st) h Q := PW_step rfl rfl rfl rfl
theorem u_73_7 : PW B X 73 7 lv (.int q2 :: .int q1 :: .int q0 :: st) h Q ↔ (pm_w st ≤ 8 ∧ PW B X 12 0 [some (.int q0), some (.int q1), some (.int q2)] [] h (fun r h' => PW B X 73 10 lv (r.toList ++ st) h' Q)) := PW_cs (y := 12) (as := [.int q0, .int q1, .int q2]) (rest := st) rfl rfl rfl rfl rfl ⟨Nat.le_of_ble_eq_true rfl, Nat.le_of_ble_eq_true rfl, Nat.le_of_ble_eq_true rfl⟩
theorem u_73_10 (hx : narrow .boolean (.int x) = .int x) : PW B X 73 10 lv ([.int x]) h Q ↔ Q (some (.int x)) h := PW_bret rfl rfl (by simp) hx
theorem u_73_10_0 : PW B X 73 10 lv ([.int 0]) h Q ↔ Q (some (.int 0)) h := u_73_10 rfl
theorem u_73_10_1 : PW B X 73 10 lv ([.int 1]) h Q ↔ Q (some (.int 1)) h := u_73_10 rfl
-- 74 BM_gap
theorem u_74_0 : PW B X 74 0 [some (.ref a), v1, v2, v3, v4] (st) h Q ↔ PW B X 74 1 [some (.ref a), v1, v2, v3, v4] (.ref a :: st) h Q := PW_step rfl rfl rfl rfl
theorem u_74_0n : PW B X 74 0 [some .null, v1, v2, v3, v4] (st) h Q ↔ PW B X 74 1 [some .null, v1, v2, v3, v4] (.null :: st) h Q := PW_step rfl rfl rfl rfl
theorem u_74_1 : PW B X 74 1 [v0, some (.int x), v2, v3, v4] (st) h Q ↔ PW B X 74 2 [v0, some (.int x), v2, v3, v4] (.int x :: st) h Q := PW_step rfl rfl rfl rfl
theorem u_74_2 : PW B X 74 2 lv (.int q0 :: .ref a :: st) h Q ↔ (pm_w st ≤ 8 ∧ pm_io B h a 0 = true ∧ PW B X 15 0 [some (.ref a), some (.int q0)] [] h (fun r h' => PW B X 74 5 lv (r.toList ++ st) h' Q)) := PW_cv (y := 15) (as := [.int q0]) (rest := st) rfl rfl rfl rfl rfl ⟨Nat.le_of_ble_eq_true rfl, Nat.le_of_ble_eq_true rfl, Nat.le_of_ble_eq_true rfl⟩
theorem u_74_5 : PW B X 74 5 [v0, v1, v2, v3, v4] (.ref a :: st) h Q ↔ PW B X 74 7 [v0, v1, v2, pm_c v3, some (.ref a)] (st) h Q := PW_step rfl rfl rfl rfl
theorem u_74_5n : PW B X 74 5 [v0, v1, v2, v3, v4] (.null :: st) h Q ↔ PW B X 74 7 [v0, v1, v2, pm_c v3, some .null] (st) h Q := PW_step rfl rfl rfl rfl
theorem u_74_7 : PW B X 74 7 [v0, v1, v2, v3, some (.ref a)] (st) h Q ↔ PW B X 74 9 [v0, v1, v2, v3, some (.ref a)] (.ref a :: st) h Q := PW_step rfl rfl rfl rfl
theorem u_74_7n : PW B X 74 7 [v0, v1, v2, v3, some .null] (st) h Q ↔ PW B X 74 9 [v0, v1, v2, v3, some .null] (.null :: st) h Q := PW_step rfl rfl rfl rfl
theorem u_74_9 : PW B X 74 9 lv (.ref a :: st) h Q ↔ PW B X 74 12 lv (st) h Q := PW_step rfl rfl rfl rfl
theorem u_74_9n : PW B X 74 9 lv (.null :: st) h Q ↔ PW B X 74 24 lv (st) h Q := PW_step rfl rfl rfl rfl
theorem u_74_12 : PW B X 74 12 [v0, v1, some (.int x), v3, v4] (st) h Q ↔ PW B X 74 13 [v0, v1, some (.int x), v3, v4] (.int x :: st) h Q := PW_step rfl rfl rfl rfl
theorem u_74_13 : PW B X 74 13 lv (.int q0 :: st) h Q ↔ (pm_w st ≤ 8 ∧ PW B X 73 0 [some (.int q0)] [] h (fun r h' => PW B X 74 16 lv (r.toList ++ st) h' Q)) := PW_cs (y := 73) (as := [.int q0]) (rest := st) rfl rfl rfl rfl rfl ⟨Nat.le_of_ble_eq_true rfl, Nat.le_of_ble_eq_true rfl, Nat.le_of_ble_eq_true rfl⟩
theorem u_74_16 : PW B X 74 16 lv (.int x :: st) h Q ↔ (if x = 0 then PW B X 74 24 lv (st) h Q else PW B X 74 19 lv (st) h Q) := PW_if rfl rfl pm_c_eq
theorem u_74_19 : PW B X 74 19 [v0, v1, v2, some (.int x), v4] (st) h Q ↔ PW B X 74 20 [v0, v1, v2, some (.int x), v4] (.int x :: st) h Q := PW_step rfl rfl rfl rfl
theorem u_74_20 : PW B X 74 20 lv (st) h Q ↔ PW B X 74 21 lv (.int (-1) :: st) h Q := PW_step rfl rfl rfl rfl
theorem u_74_21 : PW B X 74 21 lv (.int y :: .int x :: st) h Q ↔ (if y ≤ x then PW B X 74 29 lv (st) h Q else PW B X 74 24 lv (st) h Q) := PW_icmp rfl rfl pm_c_ge
theorem u_74_24 : PW B X 74 24 [v0, v1, v2, some (.int x), v4] (st) h Q ↔ PW B X 74 25 [v0, v1, v2, some (.int x), v4] (.int x :: st) h Q := PW_step rfl rfl rfl rfl
theorem u_74_25 : PW B X 74 25 lv (.int q0 :: st) h Q ↔ (pm_w st ≤ 8 ∧ PW B X 35 0 [some (.int q0)] [] h (fun r h' => PW B X 74 28 lv (r.toList ++ st) h' Q)) := PW_cs (y := 35) (as := [.int q0]) (rest := st) rfl rfl rfl rfl rfl ⟨Nat.le_of_ble_eq_true rfl, Nat.le_of_ble_eq_true rfl, Nat.le_of_ble_eq_true rfl⟩
theorem u_74_28 : PW B X 74 28 lv ([.long z]) h Q ↔ Q (some (.long z)) h := PW_ret rfl rfl
theorem u_74_29 : PW B X 74 29 [some (.ref a), v1, v2, v3, v4] (st) h Q ↔ PW B X 74 30 [some (.ref a), v1, v2, v3, v4] (.ref a :: st) h Q := PW_step rfl rfl rfl rfl
theorem u_74_29n : PW B X 74 29 [some .null, v1, v2, v3, v4] (st) h Q ↔ PW B X 74 30 [some .null, v1, v2, v3, v4] (.null :: st) h Q := PW_step rfl rfl rfl rfl
theorem u_74_30 : PW B X 74 30 lv (.ref a :: st) h Q ↔ pm_O (pm_gf (pm_at B h a) 0 8) (fun v => PW B X 74 33 lv (v :: st) h Q) := PW_getf rfl rfl
theorem u_74_33 : PW B X 74 33 [v0, v1, v2, v3, some (.ref a)] (st) h Q ↔ PW B X 74 35 [v0, v1, v2, v3, some (.ref a)] (.ref a :: st) h Q := PW_step rfl rfl rfl rfl
theorem u_74_33n : PW B X 74 33 [v0, v1, v2, v3, some .null] (st) h Q ↔ PW B X 74 35 [v0, v1, v2, v3, some .null] (.null :: st) h Q := PW_step rfl rfl rfl rfl
theorem u_74_35 : PW B X 74 35 [v0, v1, some (.int x), v3, v4] (st) h Q ↔ PW B X 74 36 [v0, v1, some (.int x), v3, v4] (.int x :: st) h Q := PW_step rfl rfl rfl rfl
theorem u_74_36 : PW B X 74 36 lv (.int q0 :: .ref a :: st) h Q ↔ (pm_w st ≤ 8 ∧ pm_io B h a 9 = true ∧ PW B X 75 0 [some (.ref a), some (.int q0)] [] h (fun r h' => PW B X 74 39 lv (r.toList ++ st) h' Q)) := PW_cv (y := 75) (as := [.int q0]) (rest := st) rfl rfl rfl rfl rfl ⟨Nat.le_of_ble_eq_true rfl, Nat.le_of_ble_eq_true rfl, Nat.le_of_ble_eq_true rfl⟩
theorem u_74_39 : PW B X 74 39 lv (st) h Q ↔ PW B X 74 42 lv (.long 10000000 :: st) h Q := PW_step rfl rfl rfl rfl
theorem u_74_42 : PW B X 74 42 lv (.long p1 :: .long p0 :: .ref a :: st) h Q ↔ (pm_w st ≤ 8 ∧ pm_io B h a 8 = true ∧ PW B X 37 0 [some (.ref a), some (.long p0), none, some (.long p1), none, none, none] [] h (fun r h' => PW B X 74 45 lv (r.toList ++ st) h' Q)) := PW_cv (y := 37) (as := [.long p0, .long p1]) (rest := st) rfl rfl rfl rfl rfl ⟨Nat.le_of_ble_eq_true rfl, Nat.le_of_ble_eq_true rfl, Nat.le_of_ble_eq_true rfl⟩
theorem u_74_45 : PW B X 74 45 [some (.ref a), v1, v2, v3, v4] (st) h Q ↔ PW B X 74 46 [some (.ref a), v1, v2, v3, v4] (.ref a :: st) h Q := PW_step rfl rfl rfl rfl
theorem u_74_45n : PW B X 74 45 [some .null, v1, v2, v3, v4] (st) h Q ↔ PW B X 74 46 [some .null, v1, v2, v3, v4] (.null :: st) h Q := PW_step rfl rfl rfl rfl
theorem u_74_46 : PW B X 74 46 lv (.ref a :: st) h Q ↔ pm_O (pm_gf (pm_at B h a) 0 8) (fun v => PW B X 74 49 lv (v :: st) h Q) := PW_getf rfl rfl
theorem u_74_49 : PW B X 74 49 [v0, v1, v2, some (.int x), v4] (st) h Q ↔ PW B X 74 50 [v0, v1, v2, some (.int x), v4] (.int x :: st) h Q := PW_step rfl rfl rfl rfl
theorem u_74_50 : PW B X 74 50 lv (.int q0 :: .ref a :: st) h Q ↔ (pm_w st ≤ 8 ∧ pm_io B h a 8 = true ∧ PW B X 61 0 [some (.ref a), some (.int q0)] [] h (fun r h' => PW B X 74 53 lv (r.toList ++ st) h' Q)) := PW_cv (y := 61) (as := [.int q0]) (rest := st) rfl rfl rfl rfl rfl ⟨Nat.le_of_ble_eq_true rfl, Nat.le_of_ble_eq_true rfl, Nat.le_of_ble_eq_true rfl⟩
theorem u_74_53 : PW B X 74 53 lv ([.long z]) h Q ↔ Q (some (.long z)) h := PW_ret rfl rfl
-- 77 BM_day
theorem u_77_0 : PW B X 77 0 [v0, some (.int x)] (st) h Q ↔ PW B X 77 1 [v0, some (.int x)] (.int x :: st) h Q := PW_step rfl rfl rfl rfl
theorem u_77_1 : PW B X 77 1 lv (.int q0 :: st) h Q ↔ (pm_w st ≤ 8 ∧ PW B X 73 0 [some (.int q0)] [] h (fun r h' => PW B X 77 4 lv (r.toList ++ st) h' Q)) := PW_cs (y := 73) (as := [.int q0]) (rest := st) rfl rfl rfl rfl rfl ⟨Nat.le_of_ble_eq_true rfl, Nat.le_of_ble_eq_true rfl, Nat.le_of_ble_eq_true rfl⟩
theorem u_77_4 : PW B X 77 4 lv (.int x :: st) h Q ↔ (if x = 0 then PW B X 77 17 lv (st) h Q else PW B X 77 7 lv (st) h Q) := PW_if rfl rfl pm_c_eq
theorem u_77_7 : PW B X 77 7 [some (.ref a), v1] (st) h Q ↔ PW B X 77 8 [some (.ref a), v1] (.ref a :: st) h Q := PW_step rfl rfl rfl rfl
theorem u_77_7n : PW B X 77 7 [some .null, v1] (st) h Q ↔ PW B X 77 8 [some .null, v1] (.null :: st) h Q := PW_step rfl rfl rfl rfl
theorem u_77_8 : PW B X 77 8 lv (.ref a :: st) h Q ↔ pm_O (pm_gf (pm_at B h a) 0 10) (fun v => PW B X 77 11 lv (v :: st) h Q) := PW_getf rfl rfl
theorem u_77_11 : PW B X 77 11 lv (st) h Q ↔ PW B X 77 14 lv (.int 400 :: st) h Q := PW_step rfl rfl rfl rfl
theorem u_77_14 : PW B X 77 14 lv (.int y :: .int x :: st) h Q ↔ (if x < y then PW B X 77 19 lv (st) h Q else PW B X 77 17 lv (st) h Q) := PW_icmp rfl rfl pm_c_lt
theorem u_77_17 : PW B X 77 17 lv (st) h Q ↔ PW B X 77 18 lv (.int (-1) :: st) h Q := PW_step rfl rfl rfl rfl
theorem u_77_18 : PW B X 77 18 lv ([.int x]) h Q ↔ Q (some (.int x)) h := PW_ret rfl rfl
theorem u_77_19 : PW B X 77 19 [some (.ref a), v1] (st) h Q ↔ PW B X 77 20 [some (.ref a), v1] (.ref a :: st) h Q := PW_step rfl rfl rfl rfl
theorem u_77_19n : PW B X 77 19 [some .null, v1] (st) h Q ↔ PW B X 77 20 [some .null, v1] (.null :: st) h Q := PW_step rfl rfl rfl rfl
theorem u_77_20 : PW B X 77 20 lv (.ref a :: st) h Q ↔ pm_O (pm_gf (pm_at B h a) 0 10) (fun v => PW B X 77 23 lv (v :: st) h Q) := PW_getf rfl rfl
theorem u_77_23 : PW B X 77 23 lv (.int x :: st) h Q ↔ (if x ≤ 0 then PW B X 77 45 lv (st) h Q else PW B X 77 26 lv (st) h Q) := PW_if rfl rfl pm_c_le
theorem u_77_26 : PW B X 77 26 [some (.ref a), v1] (st) h Q ↔ PW B X 77 27 [some (.ref a), v1] (.ref a :: st) h Q := PW_step rfl rfl rfl rfl
theorem u_77_26n : PW B X 77 26 [some .null, v1] (st) h Q ↔ PW B X 77 27 [some .null, v1] (.null :: st) h Q := PW_step rfl rfl rfl rfl
theorem u_77_27 : PW B X 77 27 lv (.ref a :: st) h Q ↔ PW B X 77 28 lv (.ref a :: .ref a :: st) h Q := PW_step rfl rfl rfl rfl
theorem u_77_27i : PW B X 77 27 lv (.int x :: st) h Q ↔ PW B X 77 28 lv (.int x :: .int x :: st) h Q := PW_step rfl rfl rfl rfl
theorem u_77_28 : PW B X 77 28 lv (.ref a :: st) h Q ↔ pm_O (pm_gf (pm_at B h a) 0 12) (fun v => PW B X 77 31 lv (v :: st) h Q) := PW_getf rfl rfl
theorem u_77_31 : PW B X 77 31 [v0, some (.int x)] (st) h Q ↔ PW B X 77 32 [v0, some (.int x)] (.int x :: st) h Q := PW_step rfl rfl rfl rfl
theorem u_77_32 : PW B X 77 32 [some (.ref a), v1] (st) h Q ↔ PW B X 77 33 [some (.ref a), v1] (.ref a :: st) h Q := PW_step rfl rfl rfl rfl
theorem u_77_32n : PW B X 77 32 [some .null, v1] (st) h Q ↔ PW B X 77 33 [some .null, v1] (.null :: st) h Q := PW_step rfl rfl rfl rfl
theorem u_77_33 : PW B X 77 33 lv (.ref a :: st) h Q ↔ pm_O (pm_gf (pm_at B h a) 0 11) (fun v => PW B X 77 36 lv (v :: st) h Q) := PW_getf rfl rfl
theorem u_77_36 : PW B X 77 36 lv (.int y :: .int x :: st) h Q ↔ PW B X 77 37 lv (.int (x - y) :: st) h Q := PW_step rfl rfl rfl rfl
theorem u_77_37 : PW B X 77 37 lv (.int x :: st) h Q ↔ (pm_w st ≤ 8 ∧ PW B X 77 40 lv (.int (if 0 ≤ x then x else 0 - x) :: st) h Q) := PW_math rfl rfl rfl rfl
theorem u_77_40 : PW B X 77 40 lv (.int x :: st) h Q ↔ PW B X 77 41 lv (.long x.toInt64 :: st) h Q := PW_step rfl rfl rfl rfl
theorem u_77_41 : PW B X 77 41 lv (.long w :: .long z :: st) h Q ↔ PW B X 77 42 lv (.long (z + w) :: st) h Q := PW_step rfl rfl rfl rfl
theorem u_77_42 : PW B X 77 42 lv (v :: .ref a :: st) h Q ↔ pm_O (pm_pf (pm_at B h a) 0 12 v) (fun e => PW B X 77 45 lv (st) (pm_set B h a e) Q) := PW_putf rfl rfl
theorem u_77_45 : PW B X 77 45 [some (.ref a), v1] (st) h Q ↔ PW B X 77 46 [some (.ref a), v1] (.ref a :: st) h Q := PW_step rfl rfl rfl rfl
theorem u_77_45n : PW B X 77 45 [some .null, v1] (st) h Q ↔ PW B X 77 46 [some .null, v1] (.null :: st) h Q := PW_step rfl rfl rfl rfl
theorem u_77_46 : PW B X 77 46 [v0, some (.int x)] (st) h Q ↔ PW B X 77 47 [v0, some (.int x)] (.int x :: st) h Q := PW_step rfl rfl rfl rfl
theorem u_77_47 : PW B X 77 47 lv (v :: .ref a :: st) h Q ↔ pm_O (pm_pf (pm_at B h a) 0 11 v) (fun e => PW B X 77 50 lv (st) (pm_set B h a e) Q) := PW_putf rfl rfl
theorem u_77_50 : PW B X 77 50 [some (.ref a), v1] (st) h Q ↔ PW B X 77 51 [some (.ref a), v1] (.ref a :: st) h Q := PW_step rfl rfl rfl rfl
theorem u_77_50n : PW B X 77 50 [some .null, v1] (st) h Q ↔ PW B X 77 51 [some .null, v1] (.null :: st) h Q := PW_step rfl rfl rfl rfl
theorem u_77_51 : PW B X 77 51 lv (.ref a :: st) h Q ↔ PW B X 77 52 lv (.ref a :: .ref a :: st) h Q := PW_step rfl rfl rfl rfl
theorem u_77_51i : PW B X 77 51 lv (.int x :: st) h Q ↔ PW B X 77 52 lv (.int x :: .int x :: st) h Q := PW_step rfl rfl rfl rfl
theorem u_77_52 : PW B X 77 52 lv (.ref a :: st) h Q ↔ pm_O (pm_gf (pm_at B h a) 0 10) (fun v => PW B X 77 55 lv (v :: st) h Q) := PW_getf rfl rfl
theorem u_77_55 : PW B X 77 55 lv (st) h Q ↔ PW B X 77 56 lv (.int 1 :: st) h Q := PW_step rfl rfl rfl rfl
theorem u_77_56 : PW B X 77 56 lv (.int y :: .int x :: st) h Q ↔ PW B X 77 57 lv (.int (x + y) :: st) h Q := PW_step rfl rfl rfl rfl
theorem u_77_57 : PW B X 77 57 lv (v :: .ref a :: st) h Q ↔ pm_O (pm_pf (pm_at B h a) 0 10 v) (fun e => PW B X 77 60 lv (st) (pm_set B h a e) Q) := PW_putf rfl rfl
theorem u_77_60 : PW B X 77 60 [some (.ref a), v1] (st) h Q ↔ PW B X 77 61 [some (.ref a), v1] (.ref a :: st) h Q := PW_step rfl rfl rfl rfl
theorem u_77_60n : PW B X 77 60 [some .null, v1] (st) h Q ↔ PW B X 77 61 [some .null, v1] (.null :: st) h Q := PW_step rfl rfl rfl rfl
theorem u_77_61 : PW B X 77 61 lv (.ref a :: st) h Q ↔ pm_O (pm_gf (pm_at B h a) 0 10) (fun v => PW B X 77 64 lv (v :: st) h Q) := PW_getf rfl rfl
theorem u_77_64 : PW B X 77 64 lv ([.int x]) h Q ↔ Q (some (.int x)) h := PW_ret rfl rfl
-- 78 BM_travel
theorem u_78_0 : PW B X 78 0 [some (.ref a), v1, v2, v3] (st) h Q ↔ PW B X 78 1 [some (.ref a), v1, v2, v3] (.ref a :: st) h Q := PW_step rfl rfl rfl rfl
theorem u_78_0n : PW B X 78 0 [some .null, v1, v2, v3] (st) h Q ↔ PW B X 78 1 [some .null, v1, v2, v3] (.null :: st) h Q := PW_step rfl rfl rfl rfl
theorem u_78_1 : PW B X 78 1 [v0, some (.int x), v2, v3] (st) h Q ↔ PW B X 78 2 [v0, some (.int x), v2, v3] (.int x :: st) h Q := PW_step rfl rfl rfl rfl
theorem u_78_2 : PW B X 78 2 lv (.int q0 :: .ref a :: st) h Q ↔ (pm_w st ≤ 8 ∧ pm_io B h a 0 = true ∧ PW B X 15 0 [some (.ref a), some (.int q0)] [] h (fun r h' => PW B X 78 5 lv (r.toList ++ st) h' Q)) := PW_cv (y := 15) (as := [.int q0]) (rest := st) rfl rfl rfl rfl rfl ⟨Nat.le_of_ble_eq_true rfl, Nat.le_of_ble_eq_true rfl, Nat.le_of_ble_eq_true rfl⟩
theorem u_78_5 : PW B X 78 5 [v0, v1, v2, v3] (.ref a :: st) h Q ↔ PW B X 78 6 [v0, v1, pm_c v2, some (.ref a)] (st) h Q := PW_step rfl rfl rfl rfl
theorem u_78_5n : PW B X 78 5 [v0, v1, v2, v3] (.null :: st) h Q ↔ PW B X 78 6 [v0, v1, pm_c v2, some .null] (st) h Q := PW_step rfl rfl rfl rfl
theorem u_78_6 : PW B X 78 6 [v0, v1, v2, some (.ref a)] (st) h Q ↔ PW B X 78 7 [v0, v1, v2, some (.ref a)] (.ref a :: st) h Q := PW_step rfl rfl rfl rfl
theorem u_78_6n : PW B X 78 6 [v0, v1, v2, some .null] (st) h Q ↔ PW B X 78 7 [v0, v1, v2, some .null] (.null :: st) h Q := PW_step rfl rfl rfl rfl
theorem u_78_7 : PW B X 78 7 lv (.ref a :: st) h Q ↔ PW B X 78 10 lv (st) h Q := PW_step rfl rfl rfl rfl
theorem u_78_7n : PW B X 78 7 lv (.null :: st) h Q ↔ PW B X 78 15 lv (st) h Q := PW_step rfl rfl rfl rfl
theorem u_78_10 : PW B X 78 10 [v0, v1, some (.int x), v3] (st) h Q ↔ PW B X 78 11 [v0, v1, some (.int x), v3] (.int x :: st) h Q := PW_step rfl rfl rfl rfl
theorem u_78_11 : PW B X 78 11 lv (st) h Q ↔ PW B X 78 12 lv (.int (-1) :: st) h Q := PW_step rfl rfl rfl rfl
theorem u_78_12 : PW B X 78 12 lv (.int y :: .int x :: st) h Q ↔ (if y ≤ x then PW B X 78 20 lv (st) h Q else PW B X 78 15 lv (st) h Q) := PW_icmp rfl rfl pm_c_ge
theorem u_78_15 : PW B X 78 15 [v0, v1, some (.int x), v3] (st) h Q ↔ PW B X 78 16 [v0, v1, some (.int x), v3] (.int x :: st) h Q := PW_step rfl rfl rfl rfl
theorem u_78_16 : PW B X 78 16 lv (.int q0 :: st) h Q ↔ (pm_w st ≤ 8 ∧ PW B X 35 0 [some (.int q0)] [] h (fun r h' => PW B X 78 19 lv (r.toList ++ st) h' Q)) := PW_cs (y := 35) (as := [.int q0]) (rest := st) rfl rfl rfl rfl rfl ⟨Nat.le_of_ble_eq_true rfl, Nat.le_of_ble_eq_true rfl, Nat.le_of_ble_eq_true rfl⟩
theorem u_78_19 : PW B X 78 19 lv ([.long z]) h Q ↔ Q (some (.long z)) h := PW_ret rfl rfl
theorem u_78_20 : PW B X 78 20 [some (.ref a), v1, v2, v3] (st) h Q ↔ PW B X 78 21 [some (.ref a), v1, v2, v3] (.ref a :: st) h Q := PW_step rfl rfl rfl rfl
theorem u_78_20n : PW B X 78 20 [some .null, v1, v2, v3] (st) h Q ↔ PW B X 78 21 [some .null, v1, v2, v3] (.null :: st) h Q := PW_step rfl rfl rfl rfl
theorem u_78_21 : PW B X 78 21 lv (.ref a :: st) h Q ↔ pm_O (pm_gf (pm_at B h a) 0 8) (fun v => PW B X 78 24 lv (v :: st) h Q) := PW_getf rfl rfl
theorem u_78_24 : PW B X 78 24 [v0, v1, v2, some (.ref a)] (st) h Q ↔ PW B X 78 25 [v0, v1, v2, some (.ref a)] (.ref a :: st) h Q := PW_step rfl rfl rfl rfl
theorem u_78_24n : PW B X 78 24 [v0, v1, v2, some .null] (st) h Q ↔ PW B X 78 25 [v0, v1, v2, some .null] (.null :: st) h Q := PW_step rfl rfl rfl rfl
theorem u_78_25 : PW B X 78 25 [some (.ref a), v1, v2, v3] (st) h Q ↔ PW B X 78 26 [some (.ref a), v1, v2, v3] (.ref a :: st) h Q := PW_step rfl rfl rfl rfl
theorem u_78_25n : PW B X 78 25 [some .null, v1, v2, v3] (st) h Q ↔ PW B X 78 26 [some .null, v1, v2, v3] (.null :: st) h Q := PW_step rfl rfl rfl rfl
theorem u_78_26 : PW B X 78 26 lv (.ref a :: st) h Q ↔ pm_O (pm_gf (pm_at B h a) 0 12) (fun v => PW B X 78 29 lv (v :: st) h Q) := PW_getf rfl rfl
theorem u_78_29 : PW B X 78 29 lv (.long p0 :: .ref a :: st) h Q ↔ (pm_w st ≤ 8 ∧ pm_io B h a 9 = true ∧ PW B X 76 0 [some (.ref a), some (.long p0), none] [] h (fun r h' => PW B X 78 32 lv (r.toList ++ st) h' Q)) := PW_cv (y := 76) (as := [.long p0]) (rest := st) rfl rfl rfl rfl rfl ⟨Nat.le_of_ble_eq_true rfl, Nat.le_of_ble_eq_true rfl, Nat.le_of_ble_eq_true rfl⟩
theorem u_78_32 : PW B X 78 32 lv (st) h Q ↔ PW B X 78 35 lv (.long 10000000 :: st) h Q := PW_step rfl rfl rfl rfl
theorem u_78_35 : PW B X 78 35 lv (.long p1 :: .long p0 :: .ref a :: st) h Q ↔ (pm_w st ≤ 8 ∧ pm_io B h a 8 = true ∧ PW B X 37 0 [some (.ref a), some (.long p0), none, some (.long p1), none, none, none] [] h (fun r h' => PW B X 78 38 lv (r.toList ++ st) h' Q)) := PW_cv (y := 37) (as := [.long p0, .long p1]) (rest := st) rfl rfl rfl rfl rfl ⟨Nat.le_of_ble_eq_true rfl, Nat.le_of_ble_eq_true rfl, Nat.le_of_ble_eq_true rfl⟩
theorem u_78_38 : PW B X 78 38 [some (.ref a), v1, v2, v3] (st) h Q ↔ PW B X 78 39 [some (.ref a), v1, v2, v3] (.ref a :: st) h Q := PW_step rfl rfl rfl rfl
theorem u_78_38n : PW B X 78 38 [some .null, v1, v2, v3] (st) h Q ↔ PW B X 78 39 [some .null, v1, v2, v3] (.null :: st) h Q := PW_step rfl rfl rfl rfl
theorem u_78_39 : PW B X 78 39 lv (.ref a :: st) h Q ↔ pm_O (pm_gf (pm_at B h a) 0 8) (fun v => PW B X 78 42 lv (v :: st) h Q) := PW_getf rfl rfl
theorem u_78_42 : PW B X 78 42 [v0, v1, some (.int x), v3] (st) h Q ↔ PW B X 78 43 [v0, v1, some (.int x), v3] (.int x :: st) h Q := PW_step rfl rfl rfl rfl
theorem u_78_43 : PW B X 78 43 lv (.int q0 :: .ref a :: st) h Q ↔ (pm_w st ≤ 8 ∧ pm_io B h a 8 = true ∧ PW B X 61 0 [some (.ref a), some (.int q0)] [] h (fun r h' => PW B X 78 46 lv (r.toList ++ st) h' Q)) := PW_cv (y := 61) (as := [.int q0]) (rest := st) rfl rfl rfl rfl rfl ⟨Nat.le_of_ble_eq_true rfl, Nat.le_of_ble_eq_true rfl, Nat.le_of_ble_eq_true rfl⟩
theorem u_78_46 : PW B X 78 46 lv ([.long z]) h Q ↔ Q (some (.long z)) h := PW_ret rfl rfl
-- 79 BM_list
theorem u_79_0 : PW B X 79 0 [some (.ref a), v1, v2] (st) h Q ↔ PW B X 79 1 [some (.ref a), v1, v2] (.ref a :: st) h Q := PW_step rfl rfl rfl rfl
theorem u_79_0n : PW B X 79 0 [some .null, v1, v2] (st) h Q ↔ PW B X 79 1 [some .null, v1, v2] (.null :: st) h Q := PW_step rfl rfl rfl rfl
theorem u_79_1 : PW B X 79 1 lv (.ref a :: st) h Q ↔ pm_O (pm_gf (pm_at B h a) 0 15) (fun v => PW B X 79 4 lv (v :: st) h Q) := PW_getf rfl rfl
theorem u_79_4 : PW B X 79 4 lv (st) h Q ↔ PW B X 79 6 lv (.int 12 :: st) h Q := PW_step rfl rfl rfl rfl
theorem u_79_6 : PW B X 79 6 lv (.int y :: .int x :: st) h Q ↔ (if y ≤ x then PW B X 79 29 lv (st) h Q else PW B X 79 9 lv (st) h Q) := PW_icmp rfl rfl pm_c_ge
theorem u_79_9 : PW B X 79 9 [v0, some (.int x), v2] (st) h Q ↔ PW B X 79 10 [v0, some (.int x), v2] (.int x :: st) h Q := PW_step rfl rfl rfl rfl
theorem u_79_10 : PW B X 79 10 lv (st) h Q ↔ PW B X 79 11 lv (.int 0 :: st) h Q := PW_step rfl rfl rfl rfl
theorem u_79_11 : PW B X 79 11 lv (st) h Q ↔ PW B X 79 13 lv (.int 100000 :: st) h Q := PW_step rfl rfl rfl rfl
theorem u_79_13 : PW B X 79 13 lv (.int q2 :: .int q1 :: .int q0 :: st) h Q ↔ (pm_w st ≤ 8 ∧ PW B X 12 0 [some (.int q0), some (.int q1), some (.int q2)] [] h (fun r h' => PW B X 79 16 lv (r.toList ++ st) h' Q)) := PW_cs (y := 12) (as := [.int q0, .int q1, .int q2]) (rest := st) rfl rfl rfl rfl rfl ⟨Nat.le_of_ble_eq_true rfl, Nat.le_of_ble_eq_true rfl, Nat.le_of_ble_eq_true rfl⟩
theorem u_79_16 : PW B X 79 16 lv (.int x :: st) h Q ↔ (if x = 0 then PW B X 79 29 lv (st) h Q else PW B X 79 19 lv (st) h Q) := PW_if rfl rfl pm_c_eq
theorem u_79_19 : PW B X 79 19 [v0, v1, some (.int x)] (st) h Q ↔ PW B X 79 20 [v0, v1, some (.int x)] (.int x :: st) h Q := PW_step rfl rfl rfl rfl
theorem u_79_20 : PW B X 79 20 lv (st) h Q ↔ PW B X 79 21 lv (.int 0 :: st) h Q := PW_step rfl rfl rfl rfl
theorem u_79_21 : PW B X 79 21 lv (st) h Q ↔ PW B X 79 23 lv (.int 10000000 :: st) h Q := PW_step rfl rfl rfl rfl
theorem u_79_23 : PW B X 79 23 lv (.int q2 :: .int q1 :: .int q0 :: st) h Q ↔ (pm_w st ≤ 8 ∧ PW B X 12 0 [some (.int q0), some (.int q1), some (.int q2)] [] h (fun r h' => PW B X 79 26 lv (r.toList ++ st) h' Q)) := PW_cs (y := 12) (as := [.int q0, .int q1, .int q2]) (rest := st) rfl rfl rfl rfl rfl ⟨Nat.le_of_ble_eq_true rfl, Nat.le_of_ble_eq_true rfl, Nat.le_of_ble_eq_true rfl⟩
theorem u_79_26 : PW B X 79 26 lv (.int x :: st) h Q ↔ (if ¬ x = 0 then PW B X 79 31 lv (st) h Q else PW B X 79 29 lv (st) h Q) := PW_if rfl rfl pm_c_ne
theorem u_79_29 : PW B X 79 29 lv (st) h Q ↔ PW B X 79 30 lv (.int (-1) :: st) h Q := PW_step rfl rfl rfl rfl
theorem u_79_30 : PW B X 79 30 lv ([.int x]) h Q ↔ Q (some (.int x)) h := PW_ret rfl rfl
theorem u_79_31 : PW B X 79 31 [some (.ref a), v1, v2] (st) h Q ↔ PW B X 79 32 [some (.ref a), v1, v2] (.ref a :: st) h Q := PW_step rfl rfl rfl rfl
theorem u_79_31n : PW B X 79 31 [some .null, v1, v2] (st) h Q ↔ PW B X 79 32 [some .null, v1, v2] (.null :: st) h Q := PW_step rfl rfl rfl rfl
theorem u_79_32 : PW B X 79 32 lv (.ref a :: st) h Q ↔ pm_O (pm_gf (pm_at B h a) 0 13) (fun v => PW B X 79 35 lv (v :: st) h Q) := PW_getf rfl rfl
theorem u_79_35 : PW B X 79 35 [some (.ref a), v1, v2] (st) h Q ↔ PW B X 79 36 [some (.ref a), v1, v2] (.ref a :: st) h Q := PW_step rfl rfl rfl rfl
theorem u_79_35n : PW B X 79 35 [some .null, v1, v2] (st) h Q ↔ PW B X 79 36 [some .null, v1, v2] (.null :: st) h Q := PW_step rfl rfl rfl rfl
theorem u_79_36 : PW B X 79 36 lv (.ref a :: st) h Q ↔ pm_O (pm_gf (pm_at B h a) 0 15) (fun v => PW B X 79 39 lv (v :: st) h Q) := PW_getf rfl rfl
theorem u_79_39 : PW B X 79 39 [v0, some (.int x), v2] (st) h Q ↔ PW B X 79 40 [v0, some (.int x), v2] (.int x :: st) h Q := PW_step rfl rfl rfl rfl
theorem u_79_40 : PW B X 79 40 lv (.int y :: .int x :: .ref a :: st) h Q ↔ pm_O (pm_sti 0 (pm_at B h a) x y) (fun e => PW B X 79 41 lv (st) (pm_set B h a e) Q) := PW_iast rfl
theorem u_79_41 : PW B X 79 41 [some (.ref a), v1, v2] (st) h Q ↔ PW B X 79 42 [some (.ref a), v1, v2] (.ref a :: st) h Q := PW_step rfl rfl rfl rfl
theorem u_79_41n : PW B X 79 41 [some .null, v1, v2] (st) h Q ↔ PW B X 79 42 [some .null, v1, v2] (.null :: st) h Q := PW_step rfl rfl rfl rfl
theorem u_79_42 : PW B X 79 42 lv (.ref a :: st) h Q ↔ pm_O (pm_gf (pm_at B h a) 0 14) (fun v => PW B X 79 45 lv (v :: st) h Q) := PW_getf rfl rfl
theorem u_79_45 : PW B X 79 45 [some (.ref a), v1, v2] (st) h Q ↔ PW B X 79 46 [some (.ref a), v1, v2] (.ref a :: st) h Q := PW_step rfl rfl rfl rfl
theorem u_79_45n : PW B X 79 45 [some .null, v1, v2] (st) h Q ↔ PW B X 79 46 [some .null, v1, v2] (.null :: st) h Q := PW_step rfl rfl rfl rfl
theorem u_79_46 : PW B X 79 46 lv (.ref a :: st) h Q ↔ pm_O (pm_gf (pm_at B h a) 0 15) (fun v => PW B X 79 49 lv (v :: st) h Q) := PW_getf rfl rfl
theorem u_79_49 : PW B X 79 49 [v0, v1, some (.int x)] (st) h Q ↔ PW B X 79 50 [v0, v1, some (.int x)] (.int x :: st) h Q := PW_step rfl rfl rfl rfl
theorem u_79_50 : PW B X 79 50 lv (.int y :: .int x :: .ref a :: st) h Q ↔ pm_O (pm_sti 0 (pm_at B h a) x y) (fun e => PW B X 79 51 lv (st) (pm_set B h a e) Q) := PW_iast rfl
theorem u_79_51 : PW B X 79 51 [some (.ref a), v1, v2] (st) h Q ↔ PW B X 79 52 [some (.ref a), v1, v2] (.ref a :: st) h Q := PW_step rfl rfl rfl rfl
theorem u_79_51n : PW B X 79 51 [some .null, v1, v2] (st) h Q ↔ PW B X 79 52 [some .null, v1, v2] (.null :: st) h Q := PW_step rfl rfl rfl rfl
theorem u_79_52 : PW B X 79 52 lv (.ref a :: st) h Q ↔ PW B X 79 53 lv (.ref a :: .ref a :: st) h Q := PW_step rfl rfl rfl rfl
theorem u_79_52i : PW B X 79 52 lv (.int x :: st) h Q ↔ PW B X 79 53 lv (.int x :: .int x :: st) h Q := PW_step rfl rfl rfl rfl
theorem u_79_53 : PW B X 79 53 lv (.ref a :: st) h Q ↔ pm_O (pm_gf (pm_at B h a) 0 15) (fun v => PW B X 79 56 lv (v :: st) h Q) := PW_getf rfl rfl
theorem u_79_56 : PW B X 79 56 lv (st) h Q ↔ PW B X 79 57 lv (.int 1 :: st) h Q := PW_step rfl rfl rfl rfl
theorem u_79_57 : PW B X 79 57 lv (.int y :: .int x :: st) h Q ↔ PW B X 79 58 lv (.int (x + y) :: st) h Q := PW_step rfl rfl rfl rfl
theorem u_79_58 : PW B X 79 58 lv (v :: .ref a :: st) h Q ↔ pm_O (pm_pf (pm_at B h a) 0 15 v) (fun e => PW B X 79 61 lv (st) (pm_set B h a e) Q) := PW_putf rfl rfl
theorem u_79_61 : PW B X 79 61 [some (.ref a), v1, v2] (st) h Q ↔ PW B X 79 62 [some (.ref a), v1, v2] (.ref a :: st) h Q := PW_step rfl rfl rfl rfl
theorem u_79_61n : PW B X 79 61 [some .null, v1, v2] (st) h Q ↔ PW B X 79 62 [some .null, v1, v2] (.null :: st) h Q := PW_step rfl rfl rfl rfl
theorem u_79_62 : PW B X 79 62 lv (.ref a :: st) h Q ↔ pm_O (pm_gf (pm_at B h a) 0 15) (fun v => PW B X 79 65 lv (v :: st) h Q) := PW_getf rfl rfl
theorem u_79_65 : PW B X 79 65 lv (st) h Q ↔ PW B X 79 66 lv (.int 1 :: st) h Q := PW_step rfl rfl rfl rfl
theorem u_79_66 : PW B X 79 66 lv (.int y :: .int x :: st) h Q ↔ PW B X 79 67 lv (.int (x - y) :: st) h Q := PW_step rfl rfl rfl rfl
theorem u_79_67 : PW B X 79 67 lv ([.int x]) h Q ↔ Q (some (.int x)) h := PW_ret rfl rfl
-- 80 BM_best
theorem u_80_0 : PW B X 80 0 [some (.ref a), v1, v2, v3, v4] (st) h Q ↔ PW B X 80 1 [some (.ref a), v1, v2, v3, v4] (.ref a :: st) h Q := PW_step rfl rfl rfl rfl
theorem u_80_0n : PW B X 80 0 [some .null, v1, v2, v3, v4] (st) h Q ↔ PW B X 80 1 [some .null, v1, v2, v3, v4] (.null :: st) h Q := PW_step rfl rfl rfl rfl
theorem u_80_1 : PW B X 80 1 [v0, some (.int x), v2, v3, v4] (st) h Q ↔ PW B X 80 2 [v0, some (.int x), v2, v3, v4] (.int x :: st) h Q := PW_step rfl rfl rfl rfl
theorem u_80_2 : PW B X 80 2 lv (.int q0 :: .ref a :: st) h Q ↔ (pm_w st ≤ 8 ∧ pm_io B h a 0 = true ∧ PW B X 15 0 [some (.ref a), some (.int q0)] [] h (fun r h' => PW B X 80 5 lv (r.toList ++ st) h' Q)) := PW_cv (y := 15) (as := [.int q0]) (rest := st) rfl rfl rfl rfl rfl ⟨Nat.le_of_ble_eq_true rfl, Nat.le_of_ble_eq_true rfl, Nat.le_of_ble_eq_true rfl⟩
theorem u_80_5 : PW B X 80 5 [v0, v1, v2, v3, v4] (.ref a :: st) h Q ↔ PW B X 80 6 [v0, pm_c v1, some (.ref a), v3, v4] (st) h Q := PW_step rfl rfl rfl rfl
theorem u_80_5n : PW B X 80 5 [v0, v1, v2, v3, v4] (.null :: st) h Q ↔ PW B X 80 6 [v0, pm_c v1, some .null, v3, v4] (st) h Q := PW_step rfl rfl rfl rfl
theorem u_80_6 : PW B X 80 6 [v0, v1, some (.ref a), v3, v4] (st) h Q ↔ PW B X 80 7 [v0, v1, some (.ref a), v3, v4] (.ref a :: st) h Q := PW_step rfl rfl rfl rfl
theorem u_80_6n : PW B X 80 6 [v0, v1, some .null, v3, v4] (st) h Q ↔ PW B X 80 7 [v0, v1, some .null, v3, v4] (.null :: st) h Q := PW_step rfl rfl rfl rfl
theorem u_80_7 : PW B X 80 7 lv (.ref a :: st) h Q ↔ PW B X 80 12 lv (st) h Q := PW_step rfl rfl rfl rfl
theorem u_80_7n : PW B X 80 7 lv (.null :: st) h Q ↔ PW B X 80 10 lv (st) h Q := PW_step rfl rfl rfl rfl
theorem u_80_10 : PW B X 80 10 lv (st) h Q ↔ PW B X 80 11 lv (.int (-1) :: st) h Q := PW_step rfl rfl rfl rfl
theorem u_80_11 : PW B X 80 11 lv ([.int x]) h Q ↔ Q (some (.int x)) h := PW_ret rfl rfl
theorem u_80_12 : PW B X 80 12 lv (st) h Q ↔ PW B X 80 13 lv (.int 0 :: st) h Q := PW_step rfl rfl rfl rfl
theorem u_80_13 : PW B X 80 13 [v0, v1, v2, v3, v4] (.int x :: st) h Q ↔ PW B X 80 14 [v0, v1, pm_c v2, some (.int x), v4] (st) h Q := PW_step rfl rfl rfl rfl
theorem u_80_14 : PW B X 80 14 [v0, v1, v2, some (.int x), v4] (st) h Q ↔ PW B X 80 15 [v0, v1, v2, some (.int x), v4] (.int x :: st) h Q := PW_step rfl rfl rfl rfl
theorem u_80_15 : PW B X 80 15 lv (st) h Q ↔ PW B X 80 16 lv (.int 3 :: st) h Q := PW_step rfl rfl rfl rfl
theorem u_80_16 : PW B X 80 16 lv (.int y :: .int x :: st) h Q ↔ (if y ≤ x then PW B X 80 64 lv (st) h Q else PW B X 80 19 lv (st) h Q) := PW_icmp rfl rfl pm_c_ge
theorem u_80_19 : PW B X 80 19 [some (.ref a), v1, v2, v3, v4] (st) h Q ↔ PW B X 80 20 [some (.ref a), v1, v2, v3, v4] (.ref a :: st) h Q := PW_step rfl rfl rfl rfl
theorem u_80_19n : PW B X 80 19 [some .null, v1, v2, v3, v4] (st) h Q ↔ PW B X 80 20 [some .null, v1, v2, v3, v4] (.null :: st) h Q := PW_step rfl rfl rfl rfl
theorem u_80_20 : PW B X 80 20 lv (.ref a :: st) h Q ↔ pm_O (pm_gf (pm_at B h a) 0 7) (fun v => PW B X 80 23 lv (v :: st) h Q) := PW_getf rfl rfl
theorem u_80_23 : PW B X 80 23 [some (.ref a), v1, v2, v3, v4] (st) h Q ↔ PW B X 80 24 [some (.ref a), v1, v2, v3, v4] (.ref a :: st) h Q := PW_step rfl rfl rfl rfl
theorem u_80_23n : PW B X 80 23 [some .null, v1, v2, v3, v4] (st) h Q ↔ PW B X 80 24 [some .null, v1, v2, v3, v4] (.null :: st) h Q := PW_step rfl rfl rfl rfl
theorem u_80_24 : PW B X 80 24 lv (.ref a :: st) h Q ↔ pm_O (pm_gf (pm_at B h a) 0 4) (fun v => PW B X 80 27 lv (v :: st) h Q) := PW_getf rfl rfl
theorem u_80_27 : PW B X 80 27 [v0, v1, some (.ref a), v3, v4] (st) h Q ↔ PW B X 80 28 [v0, v1, some (.ref a), v3, v4] (.ref a :: st) h Q := PW_step rfl rfl rfl rfl
theorem u_80_27n : PW B X 80 27 [v0, v1, some .null, v3, v4] (st) h Q ↔ PW B X 80 28 [v0, v1, some .null, v3, v4] (.null :: st) h Q := PW_step rfl rfl rfl rfl
theorem u_80_28 : PW B X 80 28 [v0, v1, v2, some (.int x), v4] (st) h Q ↔ PW B X 80 29 [v0, v1, v2, some (.int x), v4] (.int x :: st) h Q := PW_step rfl rfl rfl rfl
theorem u_80_29 : PW B X 80 29 lv (.int q2 :: .ref r1 :: .ref r0 :: .ref a :: st) h Q ↔ (pm_w st ≤ 8 ∧ pm_io B h a 6 = true ∧ PW B X 36 0 [some (.ref a), some (.ref r0), some (.ref r1), some (.int q2), none] [] h (fun r h' => PW B X 80 32 lv (r.toList ++ st) h' Q)) := PW_cv (y := 36) (as := [.ref r0, .ref r1, .int q2]) (rest := st) rfl rfl rfl rfl rfl ⟨Nat.le_of_ble_eq_true rfl, Nat.le_of_ble_eq_true rfl, Nat.le_of_ble_eq_true rfl⟩
theorem u_80_32 : PW B X 80 32 [some (.ref a), v1, v2, v3, v4] (st) h Q ↔ PW B X 80 33 [some (.ref a), v1, v2, v3, v4] (.ref a :: st) h Q := PW_step rfl rfl rfl rfl
theorem u_80_32n : PW B X 80 32 [some .null, v1, v2, v3, v4] (st) h Q ↔ PW B X 80 33 [some .null, v1, v2, v3, v4] (.null :: st) h Q := PW_step rfl rfl rfl rfl
theorem u_80_33 : PW B X 80 33 lv (.ref a :: st) h Q ↔ pm_O (pm_gf (pm_at B h a) 0 9) (fun v => PW B X 80 36 lv (v :: st) h Q) := PW_getf rfl rfl
theorem u_80_36 : PW B X 80 36 [v0, v1, v2, some (.int x), v4] (st) h Q ↔ PW B X 80 37 [v0, v1, v2, some (.int x), v4] (.int x :: st) h Q := PW_step rfl rfl rfl rfl
theorem u_80_37 : PW B X 80 37 lv (.int x :: .ref a :: st) h Q ↔ pm_O (pm_lda (pm_at B h a) x) (fun v => PW B X 80 38 lv (v :: st) h Q) := PW_aald rfl
theorem u_80_38 : PW B X 80 38 [some (.ref a), v1, v2, v3, v4] (st) h Q ↔ PW B X 80 39 [some (.ref a), v1, v2, v3, v4] (.ref a :: st) h Q := PW_step rfl rfl rfl rfl
theorem u_80_38n : PW B X 80 38 [some .null, v1, v2, v3, v4] (st) h Q ↔ PW B X 80 39 [some .null, v1, v2, v3, v4] (.null :: st) h Q := PW_step rfl rfl rfl rfl
theorem u_80_39 : PW B X 80 39 lv (.ref a :: st) h Q ↔ pm_O (pm_gf (pm_at B h a) 0 7) (fun v => PW B X 80 42 lv (v :: st) h Q) := PW_getf rfl rfl
theorem u_80_42 : PW B X 80 42 [v0, v1, v2, some (.int x), v4] (st) h Q ↔ PW B X 80 43 [v0, v1, v2, some (.int x), v4] (.int x :: st) h Q := PW_step rfl rfl rfl rfl
theorem u_80_43 : PW B X 80 43 lv (st) h Q ↔ PW B X 80 44 lv (.int 2 :: st) h Q := PW_step rfl rfl rfl rfl
theorem u_80_44 : PW B X 80 44 lv (.int y :: .int x :: st) h Q ↔ (if ¬ x = y then PW B X 80 51 lv (st) h Q else PW B X 80 47 lv (st) h Q) := PW_icmp rfl rfl pm_c_ne
theorem u_80_47 : PW B X 80 47 lv (st) h Q ↔ PW B X 80 48 lv (.int 1 :: st) h Q := PW_step rfl rfl rfl rfl
theorem u_80_48 : PW B X 80 48 lv (st) h Q ↔ PW B X 80 52 lv (st) h Q := PW_step rfl rfl rfl rfl
theorem u_80_51 : PW B X 80 51 lv (st) h Q ↔ PW B X 80 52 lv (.int 2 :: st) h Q := PW_step rfl rfl rfl rfl
theorem u_80_52 : PW B X 80 52 lv (.int q0 :: .ref a :: st) h Q ↔ (pm_w st ≤ 8 ∧ pm_io B h a 6 = true ∧ PW B X 60 0 [some (.ref a), some (.int q0)] [] h (fun r h' => PW B X 80 55 lv (r.toList ++ st) h' Q)) := PW_cv (y := 60) (as := [.int q0]) (rest := st) rfl rfl rfl rfl rfl ⟨Nat.le_of_ble_eq_true rfl, Nat.le_of_ble_eq_true rfl, Nat.le_of_ble_eq_true rfl⟩
theorem u_80_55 : PW B X 80 55 lv (.ref r0 :: .ref a :: st) h Q ↔ (pm_w st ≤ 8 ∧ pm_io B h a 8 = true ∧ PW B X 59 0 [some (.ref a), some (.ref r0)] [] h (fun r h' => PW B X 80 58 lv (r.toList ++ st) h' Q)) := PW_cv (y := 59) (as := [.ref r0]) (rest := st) rfl rfl rfl rfl rfl ⟨Nat.le_of_ble_eq_true rfl, Nat.le_of_ble_eq_true rfl, Nat.le_of_ble_eq_true rfl⟩
theorem u_80_58 : PW B X 80 58 [v0, v1, v2, some (.int x), v4] (st) h Q ↔ PW B X 80 61 [v0, v1, pm_c v2, some (.int (x + 1)), v4] (st) h Q := PW_step rfl rfl rfl rfl
theorem u_80_61 : PW B X 80 61 lv (st) h Q ↔ PW B X 80 14 lv (st) h Q := PW_step rfl rfl rfl rfl
theorem u_80_64 : PW B X 80 64 lv (st) h Q ↔ PW B X 80 65 lv (.int (-1) :: st) h Q := PW_step rfl rfl rfl rfl
theorem u_80_65 : PW B X 80 65 [v0, v1, v2, v3, v4] (.int x :: st) h Q ↔ PW B X 80 66 [v0, v1, pm_c v2, some (.int x), v4] (st) h Q := PW_step rfl rfl rfl rfl
theorem u_80_66 : PW B X 80 66 lv (st) h Q ↔ PW B X 80 67 lv (.int 0 :: st) h Q := PW_step rfl rfl rfl rfl
theorem u_80_67 : PW B X 80 67 [v0, v1, v2, v3, v4] (.int x :: st) h Q ↔ PW B X 80 69 [v0, v1, v2, pm_c v3, some (.int x)] (st) h Q := PW_step rfl rfl rfl rfl
theorem u_80_69 : PW B X 80 69 [v0, v1, v2, v3, some (.int x)] (st) h Q ↔ PW B X 80 71 [v0, v1, v2, v3, some (.int x)] (.int x :: st) h Q := PW_step rfl rfl rfl rfl
theorem u_80_71 : PW B X 80 71 [some (.ref a), v1, v2, v3, v4] (st) h Q ↔ PW B X 80 72 [some (.ref a), v1, v2, v3, v4] (.ref a :: st) h Q := PW_step rfl rfl rfl rfl
theorem u_80_71n : PW B X 80 71 [some .null, v1, v2, v3, v4] (st) h Q ↔ PW B X 80 72 [some .null, v1, v2, v3, v4] (.null :: st) h Q := PW_step rfl rfl rfl rfl
theorem u_80_72 : PW B X 80 72 lv (.ref a :: st) h Q ↔ pm_O (pm_gf (pm_at B h a) 0 15) (fun v => PW B X 80 75 lv (v :: st) h Q) := PW_getf rfl rfl
theorem u_80_75 : PW B X 80 75 lv (.int y :: .int x :: st) h Q ↔ (if y ≤ x then PW B X 80 111 lv (st) h Q else PW B X 80 78 lv (st) h Q) := PW_icmp rfl rfl pm_c_ge
theorem u_80_78 : PW B X 80 78 [some (.ref a), v1, v2, v3, v4] (st) h Q ↔ PW B X 80 79 [some (.ref a), v1, v2, v3, v4] (.ref a :: st) h Q := PW_step rfl rfl rfl rfl
theorem u_80_78n : PW B X 80 78 [some .null, v1, v2, v3, v4] (st) h Q ↔ PW B X 80 79 [some .null, v1, v2, v3, v4] (.null :: st) h Q := PW_step rfl rfl rfl rfl
theorem u_80_79 : PW B X 80 79 [v0, v1, v2, v3, some (.int x)] (st) h Q ↔ PW B X 80 81 [v0, v1, v2, v3, some (.int x)] (.int x :: st) h Q := PW_step rfl rfl rfl rfl
theorem u_80_81 : PW B X 80 81 lv (.int q0 :: .ref a :: st) h Q ↔ (pm_w st ≤ 8 ∧ pm_io B h a 0 = true ∧ PW B X 81 0 [some (.ref a), some (.int q0)] [] h (fun r h' => PW B X 80 84 lv (r.toList ++ st) h' Q)) := PW_cv (y := 81) (as := [.int q0]) (rest := st) rfl rfl rfl rfl rfl ⟨Nat.le_of_ble_eq_true rfl, Nat.le_of_ble_eq_true rfl, Nat.le_of_ble_eq_true rfl⟩
theorem u_80_84 : PW B X 80 84 lv (.int x :: st) h Q ↔ (if x = 0 then PW B X 80 105 lv (st) h Q else PW B X 80 87 lv (st) h Q) := PW_if rfl rfl pm_c_eq
theorem u_80_87 : PW B X 80 87 [v0, v1, v2, some (.int x), v4] (st) h Q ↔ PW B X 80 88 [v0, v1, v2, some (.int x), v4] (.int x :: st) h Q := PW_step rfl rfl rfl rfl
theorem u_80_88 : PW B X 80 88 lv (st) h Q ↔ PW B X 80 89 lv (.int (-1) :: st) h Q := PW_step rfl rfl rfl rfl
theorem u_80_89 : PW B X 80 89 lv (.int y :: .int x :: st) h Q ↔ (if x = y then PW B X 80 102 lv (st) h Q else PW B X 80 92 lv (st) h Q) := PW_icmp rfl rfl pm_c_eq
theorem u_80_92 : PW B X 80 92 [some (.ref a), v1, v2, v3, v4] (st) h Q ↔ PW B X 80 93 [some (.ref a), v1, v2, v3, v4] (.ref a :: st) h Q := PW_step rfl rfl rfl rfl
theorem u_80_92n : PW B X 80 92 [some .null, v1, v2, v3, v4] (st) h Q ↔ PW B X 80 93 [some .null, v1, v2, v3, v4] (.null :: st) h Q := PW_step rfl rfl rfl rfl
theorem u_80_93 : PW B X 80 93 [v0, v1, v2, v3, some (.int x)] (st) h Q ↔ PW B X 80 95 [v0, v1, v2, v3, some (.int x)] (.int x :: st) h Q := PW_step rfl rfl rfl rfl
theorem u_80_95 : PW B X 80 95 [v0, v1, v2, some (.int x), v4] (st) h Q ↔ PW B X 80 96 [v0, v1, v2, some (.int x), v4] (.int x :: st) h Q := PW_step rfl rfl rfl rfl
theorem u_80_96 : PW B X 80 96 lv (.int q1 :: .int q0 :: .ref a :: st) h Q ↔ (pm_w st ≤ 8 ∧ pm_io B h a 0 = true ∧ PW B X 83 0 [some (.ref a), some (.int q0), some (.int q1)] [] h (fun r h' => PW B X 80 99 lv (r.toList ++ st) h' Q)) := PW_cv (y := 83) (as := [.int q0, .int q1]) (rest := st) rfl rfl rfl rfl rfl ⟨Nat.le_of_ble_eq_true rfl, Nat.le_of_ble_eq_true rfl, Nat.le_of_ble_eq_true rfl⟩
theorem u_80_99 : PW B X 80 99 lv (.int x :: st) h Q ↔ (if x = 0 then PW B X 80 105 lv (st) h Q else PW B X 80 102 lv (st) h Q) := PW_if rfl rfl pm_c_eq
theorem u_80_102 : PW B X 80 102 [v0, v1, v2, v3, some (.int x)] (st) h Q ↔ PW B X 80 104 [v0, v1, v2, v3, some (.int x)] (.int x :: st) h Q := PW_step rfl rfl rfl rfl
theorem u_80_104 : PW B X 80 104 [v0, v1, v2, v3, v4] (.int x :: st) h Q ↔ PW B X 80 105 [v0, v1, pm_c v2, some (.int x), v4] (st) h Q := PW_step rfl rfl rfl rfl
theorem u_80_105 : PW B X 80 105 [v0, v1, v2, v3, some (.int x)] (st) h Q ↔ PW B X 80 108 [v0, v1, v2, pm_c v3, some (.int (x + 1))] (st) h Q := PW_step rfl rfl rfl rfl
theorem u_80_108 : PW B X 80 108 lv (st) h Q ↔ PW B X 80 69 lv (st) h Q := PW_step rfl rfl rfl rfl
theorem u_80_111 : PW B X 80 111 [v0, v1, v2, some (.int x), v4] (st) h Q ↔ PW B X 80 112 [v0, v1, v2, some (.int x), v4] (.int x :: st) h Q := PW_step rfl rfl rfl rfl
theorem u_80_112 : PW B X 80 112 lv ([.int x]) h Q ↔ Q (some (.int x)) h := PW_ret rfl rfl
-- 81 BM_holdsNeeds
theorem u_81_0 : PW B X 81 0 [some (.ref a), v1] (st) h Q ↔ PW B X 81 1 [some (.ref a), v1] (.ref a :: st) h Q := PW_step rfl rfl rfl rfl
theorem u_81_0n : PW B X 81 0 [some .null, v1] (st) h Q ↔ PW B X 81 1 [some .null, v1] (.null :: st) h Q := PW_step rfl rfl rfl rfl
theorem u_81_1 : PW B X 81 1 lv (.ref a :: st) h Q ↔ pm_O (pm_gf (pm_at B h a) 0 6) (fun v => PW B X 81 4 lv (v :: st) h Q) := PW_getf rfl rfl
theorem u_81_4 : PW B X 81 4 [some (.ref a), v1] (st) h Q ↔ PW B X 81 5 [some (.ref a), v1] (.ref a :: st) h Q := PW_step rfl rfl rfl rfl
theorem u_81_4n : PW B X 81 4 [some .null, v1] (st) h Q ↔ PW B X 81 5 [some .null, v1] (.null :: st) h Q := PW_step rfl rfl rfl rfl
theorem u_81_5 : PW B X 81 5 lv (.ref a :: st) h Q ↔ pm_O (pm_gf (pm_at B h a) 0 9) (fun v => PW B X 81 8 lv (v :: st) h Q) := PW_getf rfl rfl
theorem u_81_8 : PW B X 81 8 lv (st) h Q ↔ PW B X 81 9 lv (.int 0 :: st) h Q := PW_step rfl rfl rfl rfl
theorem u_81_9 : PW B X 81 9 lv (.int x :: .ref a :: st) h Q ↔ pm_O (pm_lda (pm_at B h a) x) (fun v => PW B X 81 10 lv (v :: st) h Q) := PW_aald rfl
theorem u_81_10 : PW B X 81 10 [some (.ref a), v1] (st) h Q ↔ PW B X 81 11 [some (.ref a), v1] (.ref a :: st) h Q := PW_step rfl rfl rfl rfl
theorem u_81_10n : PW B X 81 10 [some .null, v1] (st) h Q ↔ PW B X 81 11 [some .null, v1] (.null :: st) h Q := PW_step rfl rfl rfl rfl
theorem u_81_11 : PW B X 81 11 lv (.ref a :: st) h Q ↔ pm_O (pm_gf (pm_at B h a) 0 13) (fun v => PW B X 81 14 lv (v :: st) h Q) := PW_getf rfl rfl
theorem u_81_14 : PW B X 81 14 [v0, some (.int x)] (st) h Q ↔ PW B X 81 15 [v0, some (.int x)] (.int x :: st) h Q := PW_step rfl rfl rfl rfl
theorem u_81_15 : PW B X 81 15 lv (.int x :: .ref a :: st) h Q ↔ pm_O (pm_ldi 0 (pm_at B h a) x) (fun v => PW B X 81 16 lv (v :: st) h Q) := PW_iald rfl rfl
theorem u_81_16 : PW B X 81 16 lv (.int q1 :: .ref r0 :: .ref a :: st) h Q ↔ (pm_w st ≤ 8 ∧ pm_io B h a 4 = true ∧ PW B X 82 0 [some (.ref a), some (.ref r0), some (.int q1)] [] h (fun r h' => PW B X 81 19 lv (r.toList ++ st) h' Q)) := PW_cv (y := 82) (as := [.ref r0, .int q1]) (rest := st) rfl rfl rfl rfl rfl ⟨Nat.le_of_ble_eq_true rfl, Nat.le_of_ble_eq_true rfl, Nat.le_of_ble_eq_true rfl⟩
theorem u_81_19 : PW B X 81 19 lv (.int x :: st) h Q ↔ (if x = 0 then PW B X 81 82 lv (st) h Q else PW B X 81 22 lv (st) h Q) := PW_if rfl rfl pm_c_eq
theorem u_81_22 : PW B X 81 22 [some (.ref a), v1] (st) h Q ↔ PW B X 81 23 [some (.ref a), v1] (.ref a :: st) h Q := PW_step rfl rfl rfl rfl
theorem u_81_22n : PW B X 81 22 [some .null, v1] (st) h Q ↔ PW B X 81 23 [some .null, v1] (.null :: st) h Q := PW_step rfl rfl rfl rfl
theorem u_81_23 : PW B X 81 23 lv (.ref a :: st) h Q ↔ pm_O (pm_gf (pm_at B h a) 0 6) (fun v => PW B X 81 26 lv (v :: st) h Q) := PW_getf rfl rfl
theorem u_81_26 : PW B X 81 26 [some (.ref a), v1] (st) h Q ↔ PW B X 81 27 [some (.ref a), v1] (.ref a :: st) h Q := PW_step rfl rfl rfl rfl
theorem u_81_26n : PW B X 81 26 [some .null, v1] (st) h Q ↔ PW B X 81 27 [some .null, v1] (.null :: st) h Q := PW_step rfl rfl rfl rfl
theorem u_81_27 : PW B X 81 27 lv (.ref a :: st) h Q ↔ pm_O (pm_gf (pm_at B h a) 0 9) (fun v => PW B X 81 30 lv (v :: st) h Q) := PW_getf rfl rfl
theorem u_81_30 : PW B X 81 30 lv (st) h Q ↔ PW B X 81 31 lv (.int 1 :: st) h Q := PW_step rfl rfl rfl rfl
theorem u_81_31 : PW B X 81 31 lv (.int x :: .ref a :: st) h Q ↔ pm_O (pm_lda (pm_at B h a) x) (fun v => PW B X 81 32 lv (v :: st) h Q) := PW_aald rfl
theorem u_81_32 : PW B X 81 32 [some (.ref a), v1] (st) h Q ↔ PW B X 81 33 [some (.ref a), v1] (.ref a :: st) h Q := PW_step rfl rfl rfl rfl
theorem u_81_32n : PW B X 81 32 [some .null, v1] (st) h Q ↔ PW B X 81 33 [some .null, v1] (.null :: st) h Q := PW_step rfl rfl rfl rfl
theorem u_81_33 : PW B X 81 33 lv (.ref a :: st) h Q ↔ pm_O (pm_gf (pm_at B h a) 0 13) (fun v => PW B X 81 36 lv (v :: st) h Q) := PW_getf rfl rfl
theorem u_81_36 : PW B X 81 36 [v0, some (.int x)] (st) h Q ↔ PW B X 81 37 [v0, some (.int x)] (.int x :: st) h Q := PW_step rfl rfl rfl rfl
theorem u_81_37 : PW B X 81 37 lv (.int x :: .ref a :: st) h Q ↔ pm_O (pm_ldi 0 (pm_at B h a) x) (fun v => PW B X 81 38 lv (v :: st) h Q) := PW_iald rfl rfl
theorem u_81_38 : PW B X 81 38 lv (.int q1 :: .ref r0 :: .ref a :: st) h Q ↔ (pm_w st ≤ 8 ∧ pm_io B h a 4 = true ∧ PW B X 82 0 [some (.ref a), some (.ref r0), some (.int q1)] [] h (fun r h' => PW B X 81 41 lv (r.toList ++ st) h' Q)) := PW_cv (y := 82) (as := [.ref r0, .int q1]) (rest := st) rfl rfl rfl rfl rfl ⟨Nat.le_of_ble_eq_true rfl, Nat.le_of_ble_eq_true rfl, Nat.le_of_ble_eq_true rfl⟩
theorem u_81_41 : PW B X 81 41 lv (.int x :: st) h Q ↔ (if x = 0 then PW B X 81 82 lv (st) h Q else PW B X 81 44 lv (st) h Q) := PW_if rfl rfl pm_c_eq
theorem u_81_44 : PW B X 81 44 [some (.ref a), v1] (st) h Q ↔ PW B X 81 45 [some (.ref a), v1] (.ref a :: st) h Q := PW_step rfl rfl rfl rfl
theorem u_81_44n : PW B X 81 44 [some .null, v1] (st) h Q ↔ PW B X 81 45 [some .null, v1] (.null :: st) h Q := PW_step rfl rfl rfl rfl
theorem u_81_45 : PW B X 81 45 lv (.ref a :: st) h Q ↔ pm_O (pm_gf (pm_at B h a) 0 9) (fun v => PW B X 81 48 lv (v :: st) h Q) := PW_getf rfl rfl
theorem u_81_48 : PW B X 81 48 lv (st) h Q ↔ PW B X 81 49 lv (.int 2 :: st) h Q := PW_step rfl rfl rfl rfl
theorem u_81_49 : PW B X 81 49 lv (.int x :: .ref a :: st) h Q ↔ pm_O (pm_lda (pm_at B h a) x) (fun v => PW B X 81 50 lv (v :: st) h Q) := PW_aald rfl
theorem u_81_50 : PW B X 81 50 lv (.ref a :: st) h Q ↔ pm_O (pm_gf (pm_at B h a) 8 0) (fun v => PW B X 81 53 lv (v :: st) h Q) := PW_getf rfl rfl
theorem u_81_53 : PW B X 81 53 lv (.int x :: st) h Q ↔ (if x < 0 then PW B X 81 78 lv (st) h Q else PW B X 81 56 lv (st) h Q) := PW_if rfl rfl pm_c_lt
theorem u_81_56 : PW B X 81 56 [some (.ref a), v1] (st) h Q ↔ PW B X 81 57 [some (.ref a), v1] (.ref a :: st) h Q := PW_step rfl rfl rfl rfl
theorem u_81_56n : PW B X 81 56 [some .null, v1] (st) h Q ↔ PW B X 81 57 [some .null, v1] (.null :: st) h Q := PW_step rfl rfl rfl rfl
theorem u_81_57 : PW B X 81 57 lv (.ref a :: st) h Q ↔ pm_O (pm_gf (pm_at B h a) 0 6) (fun v => PW B X 81 60 lv (v :: st) h Q) := PW_getf rfl rfl
theorem u_81_60 : PW B X 81 60 [some (.ref a), v1] (st) h Q ↔ PW B X 81 61 [some (.ref a), v1] (.ref a :: st) h Q := PW_step rfl rfl rfl rfl
theorem u_81_60n : PW B X 81 60 [some .null, v1] (st) h Q ↔ PW B X 81 61 [some .null, v1] (.null :: st) h Q := PW_step rfl rfl rfl rfl
theorem u_81_61 : PW B X 81 61 lv (.ref a :: st) h Q ↔ pm_O (pm_gf (pm_at B h a) 0 9) (fun v => PW B X 81 64 lv (v :: st) h Q) := PW_getf rfl rfl
theorem u_81_64 : PW B X 81 64 lv (st) h Q ↔ PW B X 81 65 lv (.int 2 :: st) h Q := PW_step rfl rfl rfl rfl
theorem u_81_65 : PW B X 81 65 lv (.int x :: .ref a :: st) h Q ↔ pm_O (pm_lda (pm_at B h a) x) (fun v => PW B X 81 66 lv (v :: st) h Q) := PW_aald rfl
theorem u_81_66 : PW B X 81 66 [some (.ref a), v1] (st) h Q ↔ PW B X 81 67 [some (.ref a), v1] (.ref a :: st) h Q := PW_step rfl rfl rfl rfl
theorem u_81_66n : PW B X 81 66 [some .null, v1] (st) h Q ↔ PW B X 81 67 [some .null, v1] (.null :: st) h Q := PW_step rfl rfl rfl rfl
theorem u_81_67 : PW B X 81 67 lv (.ref a :: st) h Q ↔ pm_O (pm_gf (pm_at B h a) 0 14) (fun v => PW B X 81 70 lv (v :: st) h Q) := PW_getf rfl rfl
theorem u_81_70 : PW B X 81 70 [v0, some (.int x)] (st) h Q ↔ PW B X 81 71 [v0, some (.int x)] (.int x :: st) h Q := PW_step rfl rfl rfl rfl
theorem u_81_71 : PW B X 81 71 lv (.int x :: .ref a :: st) h Q ↔ pm_O (pm_ldi 0 (pm_at B h a) x) (fun v => PW B X 81 72 lv (v :: st) h Q) := PW_iald rfl rfl
theorem u_81_72 : PW B X 81 72 lv (.int q1 :: .ref r0 :: .ref a :: st) h Q ↔ (pm_w st ≤ 8 ∧ pm_io B h a 4 = true ∧ PW B X 82 0 [some (.ref a), some (.ref r0), some (.int q1)] [] h (fun r h' => PW B X 81 75 lv (r.toList ++ st) h' Q)) := PW_cv (y := 82) (as := [.ref r0, .int q1]) (rest := st) rfl rfl rfl rfl rfl ⟨Nat.le_of_ble_eq_true rfl, Nat.le_of_ble_eq_true rfl, Nat.le_of_ble_eq_true rfl⟩
theorem u_81_75 : PW B X 81 75 lv (.int x :: st) h Q ↔ (if x = 0 then PW B X 81 82 lv (st) h Q else PW B X 81 78 lv (st) h Q) := PW_if rfl rfl pm_c_eq
theorem u_81_78 : PW B X 81 78 lv (st) h Q ↔ PW B X 81 79 lv (.int 1 :: st) h Q := PW_step rfl rfl rfl rfl
theorem u_81_79 : PW B X 81 79 lv (st) h Q ↔ PW B X 81 83 lv (st) h Q := PW_step rfl rfl rfl rfl
theorem u_81_82 : PW B X 81 82 lv (st) h Q ↔ PW B X 81 83 lv (.int 0 :: st) h Q := PW_step rfl rfl rfl rfl
theorem u_81_83 (hx : narrow .boolean (.int x) = .int x) : PW B X 81 83 lv ([.int x]) h Q ↔ Q (some (.int x)) h := PW_bret rfl rfl (by simp) hx
theorem u_81_83_0 : PW B X 81 83 lv ([.int 0]) h Q ↔ Q (some (.int 0)) h := u_81_83 rfl
theorem u_81_83_1 : PW B X 81 83 lv ([.int 1]) h Q ↔ Q (some (.int 1)) h := u_81_83 rfl
-- 83 BM_isLesser
theorem u_83_0 : PW B X 83 0 [some (.ref a), v1, v2] (st) h Q ↔ PW B X 83 1 [some (.ref a), v1, v2] (.ref a :: st) h Q := PW_step rfl rfl rfl rfl
theorem u_83_0n : PW B X 83 0 [some .null, v1, v2] (st) h Q ↔ PW B X 83 1 [some .null, v1, v2] (.null :: st) h Q := PW_step rfl rfl rfl rfl
theorem u_83_1 : PW B X 83 1 lv (.ref a :: st) h Q ↔ pm_O (pm_gf (pm_at B h a) 0 14) (fun v => PW B X 83 4 lv (v :: st) h Q) := PW_getf rfl rfl
theorem u_83_4 : PW B X 83 4 [v0, some (.int x), v2] (st) h Q ↔ PW B X 83 5 [v0, some (.int x), v2] (.int x :: st) h Q := PW_step rfl rfl rfl rfl
theorem u_83_5 : PW B X 83 5 lv (.int x :: .ref a :: st) h Q ↔ pm_O (pm_ldi 0 (pm_at B h a) x) (fun v => PW B X 83 6 lv (v :: st) h Q) := PW_iald rfl rfl
theorem u_83_6 : PW B X 83 6 [some (.ref a), v1, v2] (st) h Q ↔ PW B X 83 7 [some (.ref a), v1, v2] (.ref a :: st) h Q := PW_step rfl rfl rfl rfl
theorem u_83_6n : PW B X 83 6 [some .null, v1, v2] (st) h Q ↔ PW B X 83 7 [some .null, v1, v2] (.null :: st) h Q := PW_step rfl rfl rfl rfl
theorem u_83_7 : PW B X 83 7 lv (.ref a :: st) h Q ↔ pm_O (pm_gf (pm_at B h a) 0 14) (fun v => PW B X 83 10 lv (v :: st) h Q) := PW_getf rfl rfl
theorem u_83_10 : PW B X 83 10 [v0, v1, some (.int x)] (st) h Q ↔ PW B X 83 11 [v0, v1, some (.int x)] (.int x :: st) h Q := PW_step rfl rfl rfl rfl
theorem u_83_11 : PW B X 83 11 lv (.int x :: .ref a :: st) h Q ↔ pm_O (pm_ldi 0 (pm_at B h a) x) (fun v => PW B X 83 12 lv (v :: st) h Q) := PW_iald rfl rfl
theorem u_83_12 : PW B X 83 12 lv (.int y :: .int x :: st) h Q ↔ (if x = y then PW B X 83 36 lv (st) h Q else PW B X 83 15 lv (st) h Q) := PW_icmp rfl rfl pm_c_eq
theorem u_83_15 : PW B X 83 15 [some (.ref a), v1, v2] (st) h Q ↔ PW B X 83 16 [some (.ref a), v1, v2] (.ref a :: st) h Q := PW_step rfl rfl rfl rfl
theorem u_83_15n : PW B X 83 15 [some .null, v1, v2] (st) h Q ↔ PW B X 83 16 [some .null, v1, v2] (.null :: st) h Q := PW_step rfl rfl rfl rfl
theorem u_83_16 : PW B X 83 16 lv (.ref a :: st) h Q ↔ pm_O (pm_gf (pm_at B h a) 0 14) (fun v => PW B X 83 19 lv (v :: st) h Q) := PW_getf rfl rfl
theorem u_83_19 : PW B X 83 19 [v0, some (.int x), v2] (st) h Q ↔ PW B X 83 20 [v0, some (.int x), v2] (.int x :: st) h Q := PW_step rfl rfl rfl rfl
theorem u_83_20 : PW B X 83 20 lv (.int x :: .ref a :: st) h Q ↔ pm_O (pm_ldi 0 (pm_at B h a) x) (fun v => PW B X 83 21 lv (v :: st) h Q) := PW_iald rfl rfl
theorem u_83_21 : PW B X 83 21 [some (.ref a), v1, v2] (st) h Q ↔ PW B X 83 22 [some (.ref a), v1, v2] (.ref a :: st) h Q := PW_step rfl rfl rfl rfl
theorem u_83_21n : PW B X 83 21 [some .null, v1, v2] (st) h Q ↔ PW B X 83 22 [some .null, v1, v2] (.null :: st) h Q := PW_step rfl rfl rfl rfl
theorem u_83_22 : PW B X 83 22 lv (.ref a :: st) h Q ↔ pm_O (pm_gf (pm_at B h a) 0 14) (fun v => PW B X 83 25 lv (v :: st) h Q) := PW_getf rfl rfl
theorem u_83_25 : PW B X 83 25 [v0, v1, some (.int x)] (st) h Q ↔ PW B X 83 26 [v0, v1, some (.int x)] (.int x :: st) h Q := PW_step rfl rfl rfl rfl
theorem u_83_26 : PW B X 83 26 lv (.int x :: .ref a :: st) h Q ↔ pm_O (pm_ldi 0 (pm_at B h a) x) (fun v => PW B X 83 27 lv (v :: st) h Q) := PW_iald rfl rfl
theorem u_83_27 : PW B X 83 27 lv (.int y :: .int x :: st) h Q ↔ (if y ≤ x then PW B X 83 34 lv (st) h Q else PW B X 83 30 lv (st) h Q) := PW_icmp rfl rfl pm_c_ge
theorem u_83_30 : PW B X 83 30 lv (st) h Q ↔ PW B X 83 31 lv (.int 1 :: st) h Q := PW_step rfl rfl rfl rfl
theorem u_83_31 : PW B X 83 31 lv (st) h Q ↔ PW B X 83 35 lv (st) h Q := PW_step rfl rfl rfl rfl
theorem u_83_34 : PW B X 83 34 lv (st) h Q ↔ PW B X 83 35 lv (.int 0 :: st) h Q := PW_step rfl rfl rfl rfl
theorem u_83_35 (hx : narrow .boolean (.int x) = .int x) : PW B X 83 35 lv ([.int x]) h Q ↔ Q (some (.int x)) h := PW_bret rfl rfl (by simp) hx
theorem u_83_35_0 : PW B X 83 35 lv ([.int 0]) h Q ↔ Q (some (.int 0)) h := u_83_35 rfl
theorem u_83_35_1 : PW B X 83 35 lv ([.int 1]) h Q ↔ Q (some (.int 1)) h := u_83_35 rfl
theorem u_83_36 : PW B X 83 36 [some (.ref a), v1, v2] (st) h Q ↔ PW B X 83 37 [some (.ref a), v1, v2] (.ref a :: st) h Q := PW_step rfl rfl rfl rfl
theorem u_83_36n : PW B X 83 36 [some .null, v1, v2] (st) h Q ↔ PW B X 83 37 [some .null, v1, v2] (.null :: st) h Q := PW_step rfl rfl rfl rfl
theorem u_83_37 : PW B X 83 37 lv (.ref a :: st) h Q ↔ pm_O (pm_gf (pm_at B h a) 0 13) (fun v => PW B X 83 40 lv (v :: st) h Q) := PW_getf rfl rfl
theorem u_83_40 : PW B X 83 40 [v0, some (.int x), v2] (st) h Q ↔ PW B X 83 41 [v0, some (.int x), v2] (.int x :: st) h Q := PW_step rfl rfl rfl rfl
theorem u_83_41 : PW B X 83 41 lv (.int x :: .ref a :: st) h Q ↔ pm_O (pm_ldi 0 (pm_at B h a) x) (fun v => PW B X 83 42 lv (v :: st) h Q) := PW_iald rfl rfl
theorem u_83_42 : PW B X 83 42 [some (.ref a), v1, v2] (st) h Q ↔ PW B X 83 43 [some (.ref a), v1, v2] (.ref a :: st) h Q := PW_step rfl rfl rfl rfl
theorem u_83_42n : PW B X 83 42 [some .null, v1, v2] (st) h Q ↔ PW B X 83 43 [some .null, v1, v2] (.null :: st) h Q := PW_step rfl rfl rfl rfl
theorem u_83_43 : PW B X 83 43 lv (.ref a :: st) h Q ↔ pm_O (pm_gf (pm_at B h a) 0 13) (fun v => PW B X 83 46 lv (v :: st) h Q) := PW_getf rfl rfl
theorem u_83_46 : PW B X 83 46 [v0, v1, some (.int x)] (st) h Q ↔ PW B X 83 47 [v0, v1, some (.int x)] (.int x :: st) h Q := PW_step rfl rfl rfl rfl
theorem u_83_47 : PW B X 83 47 lv (.int x :: .ref a :: st) h Q ↔ pm_O (pm_ldi 0 (pm_at B h a) x) (fun v => PW B X 83 48 lv (v :: st) h Q) := PW_iald rfl rfl
theorem u_83_48 : PW B X 83 48 lv (.int y :: .int x :: st) h Q ↔ (if y ≤ x then PW B X 83 55 lv (st) h Q else PW B X 83 51 lv (st) h Q) := PW_icmp rfl rfl pm_c_ge
theorem u_83_51 : PW B X 83 51 lv (st) h Q ↔ PW B X 83 52 lv (.int 1 :: st) h Q := PW_step rfl rfl rfl rfl
theorem u_83_52 : PW B X 83 52 lv (st) h Q ↔ PW B X 83 56 lv (st) h Q := PW_step rfl rfl rfl rfl
theorem u_83_55 : PW B X 83 55 lv (st) h Q ↔ PW B X 83 56 lv (.int 0 :: st) h Q := PW_step rfl rfl rfl rfl
theorem u_83_56 (hx : narrow .boolean (.int x) = .int x) : PW B X 83 56 lv ([.int x]) h Q ↔ Q (some (.int x)) h := PW_bret rfl rfl (by simp) hx
theorem u_83_56_0 : PW B X 83 56 lv ([.int 0]) h Q ↔ Q (some (.int 0)) h := u_83_56 rfl
theorem u_83_56_1 : PW B X 83 56 lv ([.int 1]) h Q ↔ Q (some (.int 1)) h := u_83_56 rfl
-- 84 BM_jack
theorem u_84_0 : PW B X 84 0 [some (.ref a), v1, v2, v3] (st) h Q ↔ PW B X 84 1 [some (.ref a), v1, v2, v3] (.ref a :: st) h Q := PW_step rfl rfl rfl rfl
theorem u_84_0n : PW B X 84 0 [some .null, v1, v2, v3] (st) h Q ↔ PW B X 84 1 [some .null, v1, v2, v3] (.null :: st) h Q := PW_step rfl rfl rfl rfl
theorem u_84_1 : PW B X 84 1 lv (.ref a :: st) h Q ↔ pm_O (pm_gf (pm_at B h a) 0 1) (fun v => PW B X 84 4 lv (v :: st) h Q) := PW_getf rfl rfl
theorem u_84_4 : PW B X 84 4 lv (.int x :: st) h Q ↔ (if x = 0 then PW B X 84 29 lv (st) h Q else PW B X 84 7 lv (st) h Q) := PW_if rfl rfl pm_c_eq
theorem u_84_7 : PW B X 84 7 [v0, some (.int x), v2, v3] (st) h Q ↔ PW B X 84 8 [v0, some (.int x), v2, v3] (.int x :: st) h Q := PW_step rfl rfl rfl rfl
theorem u_84_8 : PW B X 84 8 lv (st) h Q ↔ PW B X 84 9 lv (.int 1 :: st) h Q := PW_step rfl rfl rfl rfl
theorem u_84_9 : PW B X 84 9 lv (st) h Q ↔ PW B X 84 12 lv (.int 10000 :: st) h Q := PW_step rfl rfl rfl rfl
theorem u_84_12 : PW B X 84 12 lv (.int q2 :: .int q1 :: .int q0 :: st) h Q ↔ (pm_w st ≤ 8 ∧ PW B X 12 0 [some (.int q0), some (.int q1), some (.int q2)] [] h (fun r h' => PW B X 84 15 lv (r.toList ++ st) h' Q)) := PW_cs (y := 12) (as := [.int q0, .int q1, .int q2]) (rest := st) rfl rfl rfl rfl rfl ⟨Nat.le_of_ble_eq_true rfl, Nat.le_of_ble_eq_true rfl, Nat.le_of_ble_eq_true rfl⟩
theorem u_84_15 : PW B X 84 15 lv (.int x :: st) h Q ↔ (if x = 0 then PW B X 84 29 lv (st) h Q else PW B X 84 18 lv (st) h Q) := PW_if rfl rfl pm_c_eq
theorem u_84_18 : PW B X 84 18 [v0, v1, some (.int x), v3] (st) h Q ↔ PW B X 84 19 [v0, v1, some (.int x), v3] (.int x :: st) h Q := PW_step rfl rfl rfl rfl
theorem u_84_19 : PW B X 84 19 lv (st) h Q ↔ PW B X 84 20 lv (.int 1 :: st) h Q := PW_step rfl rfl rfl rfl
theorem u_84_20 : PW B X 84 20 lv (st) h Q ↔ PW B X 84 23 lv (.int 10000 :: st) h Q := PW_step rfl rfl rfl rfl
theorem u_84_23 : PW B X 84 23 lv (.int q2 :: .int q1 :: .int q0 :: st) h Q ↔ (pm_w st ≤ 8 ∧ PW B X 12 0 [some (.int q0), some (.int q1), some (.int q2)] [] h (fun r h' => PW B X 84 26 lv (r.toList ++ st) h' Q)) := PW_cs (y := 12) (as := [.int q0, .int q1, .int q2]) (rest := st) rfl rfl rfl rfl rfl ⟨Nat.le_of_ble_eq_true rfl, Nat.le_of_ble_eq_true rfl, Nat.le_of_ble_eq_true rfl⟩
theorem u_84_26 : PW B X 84 26 lv (.int x :: st) h Q ↔ (if ¬ x = 0 then PW B X 84 31 lv (st) h Q else PW B X 84 29 lv (st) h Q) := PW_if rfl rfl pm_c_ne
theorem u_84_29 : PW B X 84 29 lv (st) h Q ↔ PW B X 84 30 lv (.int (-1) :: st) h Q := PW_step rfl rfl rfl rfl
theorem u_84_30 : PW B X 84 30 lv ([.int x]) h Q ↔ Q (some (.int x)) h := PW_ret rfl rfl
theorem u_84_31 : PW B X 84 31 [some (.ref a), v1, v2, v3] (st) h Q ↔ PW B X 84 32 [some (.ref a), v1, v2, v3] (.ref a :: st) h Q := PW_step rfl rfl rfl rfl
theorem u_84_31n : PW B X 84 31 [some .null, v1, v2, v3] (st) h Q ↔ PW B X 84 32 [some .null, v1, v2, v3] (.null :: st) h Q := PW_step rfl rfl rfl rfl
theorem u_84_32 : PW B X 84 32 [v0, some (.int x), v2, v3] (st) h Q ↔ PW B X 84 33 [v0, some (.int x), v2, v3] (.int x :: st) h Q := PW_step rfl rfl rfl rfl
theorem u_84_33 : PW B X 84 33 lv (v :: .ref a :: st) h Q ↔ pm_O (pm_pf (pm_at B h a) 0 16 v) (fun e => PW B X 84 36 lv (st) (pm_set B h a e) Q) := PW_putf rfl rfl
theorem u_84_36 : PW B X 84 36 [some (.ref a), v1, v2, v3] (st) h Q ↔ PW B X 84 37 [some (.ref a), v1, v2, v3] (.ref a :: st) h Q := PW_step rfl rfl rfl rfl
theorem u_84_36n : PW B X 84 36 [some .null, v1, v2, v3] (st) h Q ↔ PW B X 84 37 [some .null, v1, v2, v3] (.null :: st) h Q := PW_step rfl rfl rfl rfl
theorem u_84_37 : PW B X 84 37 [v0, v1, some (.int x), v3] (st) h Q ↔ PW B X 84 38 [v0, v1, some (.int x), v3] (.int x :: st) h Q := PW_step rfl rfl rfl rfl
theorem u_84_38 : PW B X 84 38 lv (v :: .ref a :: st) h Q ↔ pm_O (pm_pf (pm_at B h a) 0 17 v) (fun e => PW B X 84 41 lv (st) (pm_set B h a e) Q) := PW_putf rfl rfl
theorem u_84_41 : PW B X 84 41 [v0, some (.int x), v2, v3] (st) h Q ↔ PW B X 84 42 [v0, some (.int x), v2, v3] (.int x :: st) h Q := PW_step rfl rfl rfl rfl
theorem u_84_42 : PW B X 84 42 [v0, v1, some (.int x), v3] (st) h Q ↔ PW B X 84 43 [v0, v1, some (.int x), v3] (.int x :: st) h Q := PW_step rfl rfl rfl rfl
theorem u_84_43 : PW B X 84 43 lv (.int y :: .int x :: st) h Q ↔ PW B X 84 44 lv (.int (x + y) :: st) h Q := PW_step rfl rfl rfl rfl
theorem u_84_44 : PW B X 84 44 lv (st) h Q ↔ PW B X 84 45 lv (.int 1 :: st) h Q := PW_step rfl rfl rfl rfl
theorem u_84_45 : PW B X 84 45 lv (.int y :: .int x :: st) h Q ↔ PW B X 84 46 lv (.int (x - y) :: st) h Q := PW_step rfl rfl rfl rfl
theorem u_84_46 : PW B X 84 46 [v0, v1, some (.int x), v3] (st) h Q ↔ PW B X 84 47 [v0, v1, some (.int x), v3] (.int x :: st) h Q := PW_step rfl rfl rfl rfl
theorem u_84_47 : PW B X 84 47 lv (.int y :: .int x :: st) h Q ↔ (¬ y = 0 ∧ PW B X 84 48 lv (.int (x / y) :: st) h Q) := PW_idiv rfl
theorem u_84_48 : PW B X 84 48 [v0, v1, v2, v3] (.int x :: st) h Q ↔ PW B X 84 49 [v0, v1, pm_c v2, some (.int x)] (st) h Q := PW_step rfl rfl rfl rfl
theorem u_84_49 : PW B X 84 49 [some (.ref a), v1, v2, v3] (st) h Q ↔ PW B X 84 50 [some (.ref a), v1, v2, v3] (.ref a :: st) h Q := PW_step rfl rfl rfl rfl
theorem u_84_49n : PW B X 84 49 [some .null, v1, v2, v3] (st) h Q ↔ PW B X 84 50 [some .null, v1, v2, v3] (.null :: st) h Q := PW_step rfl rfl rfl rfl
theorem u_84_50 : PW B X 84 50 [v0, v1, v2, some (.int x)] (st) h Q ↔ PW B X 84 51 [v0, v1, v2, some (.int x)] (.int x :: st) h Q := PW_step rfl rfl rfl rfl
theorem u_84_51 : PW B X 84 51 [some (.ref a), v1, v2, v3] (st) h Q ↔ PW B X 84 52 [some (.ref a), v1, v2, v3] (.ref a :: st) h Q := PW_step rfl rfl rfl rfl
theorem u_84_51n : PW B X 84 51 [some .null, v1, v2, v3] (st) h Q ↔ PW B X 84 52 [some .null, v1, v2, v3] (.null :: st) h Q := PW_step rfl rfl rfl rfl
theorem u_84_52 : PW B X 84 52 lv (.ref a :: st) h Q ↔ pm_O (pm_gf (pm_at B h a) 0 1) (fun v => PW B X 84 55 lv (v :: st) h Q) := PW_getf rfl rfl
theorem u_84_55 : PW B X 84 55 lv (.int y :: .int x :: st) h Q ↔ PW B X 84 56 lv (.int (x * y) :: st) h Q := PW_step rfl rfl rfl rfl
theorem u_84_56 : PW B X 84 56 lv (v :: .ref a :: st) h Q ↔ pm_O (pm_pf (pm_at B h a) 0 18 v) (fun e => PW B X 84 59 lv (st) (pm_set B h a e) Q) := PW_putf rfl rfl
theorem u_84_59 : PW B X 84 59 [some (.ref a), v1, v2, v3] (st) h Q ↔ PW B X 84 60 [some (.ref a), v1, v2, v3] (.ref a :: st) h Q := PW_step rfl rfl rfl rfl
theorem u_84_59n : PW B X 84 59 [some .null, v1, v2, v3] (st) h Q ↔ PW B X 84 60 [some .null, v1, v2, v3] (.null :: st) h Q := PW_step rfl rfl rfl rfl
theorem u_84_60 : PW B X 84 60 lv (.ref a :: st) h Q ↔ pm_O (pm_gf (pm_at B h a) 0 18) (fun v => PW B X 84 63 lv (v :: st) h Q) := PW_getf rfl rfl
theorem u_84_63 : PW B X 84 63 lv ([.int x]) h Q ↔ Q (some (.int x)) h := PW_ret rfl rfl
-- 85 BM_raised
theorem u_85_0 : PW B X 85 0 [some (.ref a), v1, v2, v3, v4, v5] (st) h Q ↔ PW B X 85 1 [some (.ref a), v1, v2, v3, v4, v5] (.ref a :: st) h Q := PW_step rfl rfl rfl rfl
theorem u_85_0n : PW B X 85 0 [some .null, v1, v2, v3, v4, v5] (st) h Q ↔ PW B X 85 1 [some .null, v1, v2, v3, v4, v5] (.null :: st) h Q := PW_step rfl rfl rfl rfl
theorem u_85_1 : PW B X 85 1 lv (.ref a :: st) h Q ↔ pm_O (pm_gf (pm_at B h a) 0 18) (fun v => PW B X 85 4 lv (v :: st) h Q) := PW_getf rfl rfl
theorem u_85_4 : PW B X 85 4 lv (st) h Q ↔ PW B X 85 5 lv (.int (-1) :: st) h Q := PW_step rfl rfl rfl rfl
theorem u_85_5 : PW B X 85 5 lv (.int y :: .int x :: st) h Q ↔ (if x = y then PW B X 85 41 lv (st) h Q else PW B X 85 8 lv (st) h Q) := PW_icmp rfl rfl pm_c_eq
theorem u_85_8 : PW B X 85 8 [some (.ref a), v1, v2, v3, v4, v5] (st) h Q ↔ PW B X 85 9 [some (.ref a), v1, v2, v3, v4, v5] (.ref a :: st) h Q := PW_step rfl rfl rfl rfl
theorem u_85_8n : PW B X 85 8 [some .null, v1, v2, v3, v4, v5] (st) h Q ↔ PW B X 85 9 [some .null, v1, v2, v3, v4, v5] (.null :: st) h Q := PW_step rfl rfl rfl rfl
theorem u_85_9 : PW B X 85 9 lv (.ref a :: st) h Q ↔ pm_O (pm_gf (pm_at B h a) 0 1) (fun v => PW B X 85 12 lv (v :: st) h Q) := PW_getf rfl rfl
theorem u_85_12 : PW B X 85 12 lv (.int x :: st) h Q ↔ (if x = 0 then PW B X 85 41 lv (st) h Q else PW B X 85 15 lv (st) h Q) := PW_if rfl rfl pm_c_eq
theorem u_85_15 : PW B X 85 15 [v0, some (.int x), v2, v3, v4, v5] (st) h Q ↔ PW B X 85 16 [v0, some (.int x), v2, v3, v4, v5] (.int x :: st) h Q := PW_step rfl rfl rfl rfl
theorem u_85_16 : PW B X 85 16 lv (st) h Q ↔ PW B X 85 17 lv (.int 0 :: st) h Q := PW_step rfl rfl rfl rfl
theorem u_85_17 : PW B X 85 17 [some (.ref a), v1, v2, v3, v4, v5] (st) h Q ↔ PW B X 85 18 [some (.ref a), v1, v2, v3, v4, v5] (.ref a :: st) h Q := PW_step rfl rfl rfl rfl
theorem u_85_17n : PW B X 85 17 [some .null, v1, v2, v3, v4, v5] (st) h Q ↔ PW B X 85 18 [some .null, v1, v2, v3, v4, v5] (.null :: st) h Q := PW_step rfl rfl rfl rfl
theorem u_85_18 : PW B X 85 18 lv (.ref a :: st) h Q ↔ pm_O (pm_gf (pm_at B h a) 0 18) (fun v => PW B X 85 21 lv (v :: st) h Q) := PW_getf rfl rfl
theorem u_85_21 : PW B X 85 21 lv (.int q2 :: .int q1 :: .int q0 :: st) h Q ↔ (pm_w st ≤ 8 ∧ PW B X 12 0 [some (.int q0), some (.int q1), some (.int q2)] [] h (fun r h' => PW B X 85 24 lv (r.toList ++ st) h' Q)) := PW_cs (y := 12) (as := [.int q0, .int q1, .int q2]) (rest := st) rfl rfl rfl rfl rfl ⟨Nat.le_of_ble_eq_true rfl, Nat.le_of_ble_eq_true rfl, Nat.le_of_ble_eq_true rfl⟩
theorem u_85_24 : PW B X 85 24 lv (.int x :: st) h Q ↔ (if x = 0 then PW B X 85 41 lv (st) h Q else PW B X 85 27 lv (st) h Q) := PW_if rfl rfl pm_c_eq
theorem u_85_27 : PW B X 85 27 [v0, v1, some (.int x), v3, v4, v5] (st) h Q ↔ PW B X 85 28 [v0, v1, some (.int x), v3, v4, v5] (.int x :: st) h Q := PW_step rfl rfl rfl rfl
theorem u_85_28 : PW B X 85 28 lv (st) h Q ↔ PW B X 85 29 lv (.int 0 :: st) h Q := PW_step rfl rfl rfl rfl
theorem u_85_29 : PW B X 85 29 [some (.ref a), v1, v2, v3, v4, v5] (st) h Q ↔ PW B X 85 30 [some (.ref a), v1, v2, v3, v4, v5] (.ref a :: st) h Q := PW_step rfl rfl rfl rfl
theorem u_85_29n : PW B X 85 29 [some .null, v1, v2, v3, v4, v5] (st) h Q ↔ PW B X 85 30 [some .null, v1, v2, v3, v4, v5] (.null :: st) h Q := PW_step rfl rfl rfl rfl
theorem u_85_30 : PW B X 85 30 lv (.ref a :: st) h Q ↔ pm_O (pm_gf (pm_at B h a) 0 1) (fun v => PW B X 85 33 lv (v :: st) h Q) := PW_getf rfl rfl
theorem u_85_33 : PW B X 85 33 lv (st) h Q ↔ PW B X 85 34 lv (.int 1 :: st) h Q := PW_step rfl rfl rfl rfl
theorem u_85_34 : PW B X 85 34 lv (.int y :: .int x :: st) h Q ↔ PW B X 85 35 lv (.int (x - y) :: st) h Q := PW_step rfl rfl rfl rfl
theorem u_85_35 : PW B X 85 35 lv (.int q2 :: .int q1 :: .int q0 :: st) h Q ↔ (pm_w st ≤ 8 ∧ PW B X 12 0 [some (.int q0), some (.int q1), some (.int q2)] [] h (fun r h' => PW B X 85 38 lv (r.toList ++ st) h' Q)) := PW_cs (y := 12) (as := [.int q0, .int q1, .int q2]) (rest := st) rfl rfl rfl rfl rfl ⟨Nat.le_of_ble_eq_true rfl, Nat.le_of_ble_eq_true rfl, Nat.le_of_ble_eq_true rfl⟩
theorem u_85_38 : PW B X 85 38 lv (.int x :: st) h Q ↔ (if ¬ x = 0 then PW B X 85 43 lv (st) h Q else PW B X 85 41 lv (st) h Q) := PW_if rfl rfl pm_c_ne
theorem u_85_41 : PW B X 85 41 lv (st) h Q ↔ PW B X 85 42 lv (.int (-1) :: st) h Q := PW_step rfl rfl rfl rfl
theorem u_85_42 : PW B X 85 42 lv ([.int x]) h Q ↔ Q (some (.int x)) h := PW_ret rfl rfl
theorem u_85_43 : PW B X 85 43 [v0, some (.int x), v2, v3, v4, v5] (st) h Q ↔ PW B X 85 44 [v0, some (.int x), v2, v3, v4, v5] (.int x :: st) h Q := PW_step rfl rfl rfl rfl
theorem u_85_44 : PW B X 85 44 [some (.ref a), v1, v2, v3, v4, v5] (st) h Q ↔ PW B X 85 45 [some (.ref a), v1, v2, v3, v4, v5] (.ref a :: st) h Q := PW_step rfl rfl rfl rfl
theorem u_85_44n : PW B X 85 44 [some .null, v1, v2, v3, v4, v5] (st) h Q ↔ PW B X 85 45 [some .null, v1, v2, v3, v4, v5] (.null :: st) h Q := PW_step rfl rfl rfl rfl
theorem u_85_45 : PW B X 85 45 lv (.ref a :: st) h Q ↔ pm_O (pm_gf (pm_at B h a) 0 1) (fun v => PW B X 85 48 lv (v :: st) h Q) := PW_getf rfl rfl
theorem u_85_48 : PW B X 85 48 lv (.int y :: .int x :: st) h Q ↔ (¬ y = 0 ∧ PW B X 85 49 lv (.int (x / y) :: st) h Q) := PW_idiv rfl
theorem u_85_49 : PW B X 85 49 [v0, v1, v2, v3, v4, v5] (.int x :: st) h Q ↔ PW B X 85 50 [v0, v1, pm_c v2, some (.int x), v4, v5] (st) h Q := PW_step rfl rfl rfl rfl
theorem u_85_50 : PW B X 85 50 [v0, v1, some (.int x), v3, v4, v5] (st) h Q ↔ PW B X 85 51 [v0, v1, some (.int x), v3, v4, v5] (.int x :: st) h Q := PW_step rfl rfl rfl rfl
theorem u_85_51 : PW B X 85 51 [v0, some (.int x), v2, v3, v4, v5] (st) h Q ↔ PW B X 85 52 [v0, some (.int x), v2, v3, v4, v5] (.int x :: st) h Q := PW_step rfl rfl rfl rfl
theorem u_85_52 : PW B X 85 52 [some (.ref a), v1, v2, v3, v4, v5] (st) h Q ↔ PW B X 85 53 [some (.ref a), v1, v2, v3, v4, v5] (.ref a :: st) h Q := PW_step rfl rfl rfl rfl
theorem u_85_52n : PW B X 85 52 [some .null, v1, v2, v3, v4, v5] (st) h Q ↔ PW B X 85 53 [some .null, v1, v2, v3, v4, v5] (.null :: st) h Q := PW_step rfl rfl rfl rfl
theorem u_85_53 : PW B X 85 53 lv (.ref a :: st) h Q ↔ pm_O (pm_gf (pm_at B h a) 0 1) (fun v => PW B X 85 56 lv (v :: st) h Q) := PW_getf rfl rfl
theorem u_85_56 : PW B X 85 56 lv (.int y :: .int x :: st) h Q ↔ (¬ y = 0 ∧ PW B X 85 57 lv (.int (x - x / y * y) :: st) h Q) := PW_irem rfl
theorem u_85_57 : PW B X 85 57 lv (.int y :: .int x :: st) h Q ↔ (if y ≤ x then PW B X 85 64 lv (st) h Q else PW B X 85 60 lv (st) h Q) := PW_icmp rfl rfl pm_c_ge
theorem u_85_60 : PW B X 85 60 lv (st) h Q ↔ PW B X 85 61 lv (.int 1 :: st) h Q := PW_step rfl rfl rfl rfl
theorem u_85_61 : PW B X 85 61 lv (st) h Q ↔ PW B X 85 65 lv (st) h Q := PW_step rfl rfl rfl rfl
theorem u_85_64 : PW B X 85 64 lv (st) h Q ↔ PW B X 85 65 lv (.int 0 :: st) h Q := PW_step rfl rfl rfl rfl
theorem u_85_65 : PW B X 85 65 [v0, v1, v2, v3, v4, v5] (.int x :: st) h Q ↔ PW B X 85 67 [v0, v1, v2, pm_c v3, some (.int x), v5] (st) h Q := PW_step rfl rfl rfl rfl
theorem u_85_67 : PW B X 85 67 [v0, v1, v2, v3, some (.int x), v5] (st) h Q ↔ PW B X 85 69 [v0, v1, v2, v3, some (.int x), v5] (.int x :: st) h Q := PW_step rfl rfl rfl rfl
theorem u_85_69 : PW B X 85 69 lv (.int x :: st) h Q ↔ (if x = 0 then PW B X 85 78 lv (st) h Q else PW B X 85 72 lv (st) h Q) := PW_if rfl rfl pm_c_eq
theorem u_85_72 : PW B X 85 72 [v0, v1, v2, some (.int x), v4, v5] (st) h Q ↔ PW B X 85 73 [v0, v1, v2, some (.int x), v4, v5] (.int x :: st) h Q := PW_step rfl rfl rfl rfl
theorem u_85_73 : PW B X 85 73 lv (st) h Q ↔ PW B X 85 74 lv (.int 1 :: st) h Q := PW_step rfl rfl rfl rfl
theorem u_85_74 : PW B X 85 74 lv (.int y :: .int x :: st) h Q ↔ PW B X 85 75 lv (.int (x + y) :: st) h Q := PW_step rfl rfl rfl rfl
theorem u_85_75 : PW B X 85 75 lv (st) h Q ↔ PW B X 85 79 lv (st) h Q := PW_step rfl rfl rfl rfl
theorem u_85_78 : PW B X 85 78 [v0, v1, v2, some (.int x), v4, v5] (st) h Q ↔ PW B X 85 79 [v0, v1, v2, some (.int x), v4, v5] (.int x :: st) h Q := PW_step rfl rfl rfl rfl
theorem u_85_79 : PW B X 85 79 [v0, v1, v2, v3, v4, v5] (.int x :: st) h Q ↔ PW B X 85 81 [v0, v1, v2, v3, pm_c v4, some (.int x)] (st) h Q := PW_step rfl rfl rfl rfl
theorem u_85_81 : PW B X 85 81 [v0, v1, v2, v3, v4, some (.int x)] (st) h Q ↔ PW B X 85 83 [v0, v1, v2, v3, v4, some (.int x)] (.int x :: st) h Q := PW_step rfl rfl rfl rfl
theorem u_85_83 : PW B X 85 83 [some (.ref a), v1, v2, v3, v4, v5] (st) h Q ↔ PW B X 85 84 [some (.ref a), v1, v2, v3, v4, v5] (.ref a :: st) h Q := PW_step rfl rfl rfl rfl
theorem u_85_83n : PW B X 85 83 [some .null, v1, v2, v3, v4, v5] (st) h Q ↔ PW B X 85 84 [some .null, v1, v2, v3, v4, v5] (.null :: st) h Q := PW_step rfl rfl rfl rfl
theorem u_85_84 : PW B X 85 84 lv (.ref a :: st) h Q ↔ pm_O (pm_gf (pm_at B h a) 0 17) (fun v => PW B X 85 87 lv (v :: st) h Q) := PW_getf rfl rfl
theorem u_85_87 : PW B X 85 87 lv (.int y :: .int x :: st) h Q ↔ PW B X 85 88 lv (.int (x * y) :: st) h Q := PW_step rfl rfl rfl rfl
theorem u_85_88 : PW B X 85 88 [some (.ref a), v1, v2, v3, v4, v5] (st) h Q ↔ PW B X 85 89 [some (.ref a), v1, v2, v3, v4, v5] (.ref a :: st) h Q := PW_step rfl rfl rfl rfl
theorem u_85_88n : PW B X 85 88 [some .null, v1, v2, v3, v4, v5] (st) h Q ↔ PW B X 85 89 [some .null, v1, v2, v3, v4, v5] (.null :: st) h Q := PW_step rfl rfl rfl rfl
theorem u_85_89 : PW B X 85 89 lv (.ref a :: st) h Q ↔ pm_O (pm_gf (pm_at B h a) 0 16) (fun v => PW B X 85 92 lv (v :: st) h Q) := PW_getf rfl rfl
theorem u_85_92 : PW B X 85 92 lv (.int y :: .int x :: st) h Q ↔ (pm_w st ≤ 8 ∧ PW B X 85 95 lv (.int (if y < x then y else x) :: st) h Q) := PW_math rfl rfl rfl rfl
theorem u_85_95 : PW B X 85 95 lv ([.int x]) h Q ↔ Q (some (.int x)) h := PW_ret rfl rfl
-- 86 BM_inspect
theorem u_86_0 : PW B X 86 0 [v0, some (.int x), v2] (st) h Q ↔ PW B X 86 1 [v0, some (.int x), v2] (.int x :: st) h Q := PW_step rfl rfl rfl rfl
theorem u_86_1 : PW B X 86 1 lv (st) h Q ↔ PW B X 86 2 lv (.int 0 :: st) h Q := PW_step rfl rfl rfl rfl
theorem u_86_2 : PW B X 86 2 [some (.ref a), v1, v2] (st) h Q ↔ PW B X 86 3 [some (.ref a), v1, v2] (.ref a :: st) h Q := PW_step rfl rfl rfl rfl
theorem u_86_2n : PW B X 86 2 [some .null, v1, v2] (st) h Q ↔ PW B X 86 3 [some .null, v1, v2] (.null :: st) h Q := PW_step rfl rfl rfl rfl
theorem u_86_3 : PW B X 86 3 lv (.ref a :: st) h Q ↔ pm_O (pm_gf (pm_at B h a) 0 1) (fun v => PW B X 86 6 lv (v :: st) h Q) := PW_getf rfl rfl
theorem u_86_6 : PW B X 86 6 lv (st) h Q ↔ PW B X 86 7 lv (.int 1 :: st) h Q := PW_step rfl rfl rfl rfl
theorem u_86_7 : PW B X 86 7 lv (.int y :: .int x :: st) h Q ↔ PW B X 86 8 lv (.int (x - y) :: st) h Q := PW_step rfl rfl rfl rfl
theorem u_86_8 : PW B X 86 8 lv (.int q2 :: .int q1 :: .int q0 :: st) h Q ↔ (pm_w st ≤ 8 ∧ PW B X 12 0 [some (.int q0), some (.int q1), some (.int q2)] [] h (fun r h' => PW B X 86 11 lv (r.toList ++ st) h' Q)) := PW_cs (y := 12) (as := [.int q0, .int q1, .int q2]) (rest := st) rfl rfl rfl rfl rfl ⟨Nat.le_of_ble_eq_true rfl, Nat.le_of_ble_eq_true rfl, Nat.le_of_ble_eq_true rfl⟩
theorem u_86_11 : PW B X 86 11 lv (.int x :: st) h Q ↔ (if ¬ x = 0 then PW B X 86 16 lv (st) h Q else PW B X 86 14 lv (st) h Q) := PW_if rfl rfl pm_c_ne
theorem u_86_14 : PW B X 86 14 lv (st) h Q ↔ PW B X 86 15 lv (.int (-1) :: st) h Q := PW_step rfl rfl rfl rfl
theorem u_86_15 : PW B X 86 15 lv ([.int x]) h Q ↔ Q (some (.int x)) h := PW_ret rfl rfl
theorem u_86_16 : PW B X 86 16 [some (.ref a), v1, v2] (st) h Q ↔ PW B X 86 17 [some (.ref a), v1, v2] (.ref a :: st) h Q := PW_step rfl rfl rfl rfl
theorem u_86_16n : PW B X 86 16 [some .null, v1, v2] (st) h Q ↔ PW B X 86 17 [some .null, v1, v2] (.null :: st) h Q := PW_step rfl rfl rfl rfl
theorem u_86_17 : PW B X 86 17 lv (.ref a :: st) h Q ↔ (pm_w st ≤ 8 ∧ pm_io B h a 0 = true ∧ PW B X 87 0 [some (.ref a), none, none] [] h (fun r h' => PW B X 86 20 lv (r.toList ++ st) h' Q)) := PW_cv (y := 87) (as := []) (rest := st) rfl rfl rfl rfl rfl ⟨Nat.le_of_ble_eq_true rfl, Nat.le_of_ble_eq_true rfl, Nat.le_of_ble_eq_true rfl⟩
theorem u_86_20 : PW B X 86 20 lv (st) h Q ↔ PW B X 86 21 lv (.int 0 :: st) h Q := PW_step rfl rfl rfl rfl
theorem u_86_21 : PW B X 86 21 [v0, v1, v2] (.int x :: st) h Q ↔ PW B X 86 22 [v0, pm_c v1, some (.int x)] (st) h Q := PW_step rfl rfl rfl rfl
theorem u_86_22 : PW B X 86 22 [v0, v1, some (.int x)] (st) h Q ↔ PW B X 86 23 [v0, v1, some (.int x)] (.int x :: st) h Q := PW_step rfl rfl rfl rfl
theorem u_86_23 : PW B X 86 23 [some (.ref a), v1, v2] (st) h Q ↔ PW B X 86 24 [some (.ref a), v1, v2] (.ref a :: st) h Q := PW_step rfl rfl rfl rfl
theorem u_86_23n : PW B X 86 23 [some .null, v1, v2] (st) h Q ↔ PW B X 86 24 [some .null, v1, v2] (.null :: st) h Q := PW_step rfl rfl rfl rfl
theorem u_86_24 : PW B X 86 24 lv (.ref a :: st) h Q ↔ pm_O (pm_gf (pm_at B h a) 0 1) (fun v => PW B X 86 27 lv (v :: st) h Q) := PW_getf rfl rfl
theorem u_86_27 : PW B X 86 27 lv (.int y :: .int x :: st) h Q ↔ (if y ≤ x then PW B X 86 47 lv (st) h Q else PW B X 86 30 lv (st) h Q) := PW_icmp rfl rfl pm_c_ge
theorem u_86_30 : PW B X 86 30 [some (.ref a), v1, v2] (st) h Q ↔ PW B X 86 31 [some (.ref a), v1, v2] (.ref a :: st) h Q := PW_step rfl rfl rfl rfl
theorem u_86_30n : PW B X 86 30 [some .null, v1, v2] (st) h Q ↔ PW B X 86 31 [some .null, v1, v2] (.null :: st) h Q := PW_step rfl rfl rfl rfl
theorem u_86_31 : PW B X 86 31 [v0, v1, some (.int x)] (st) h Q ↔ PW B X 86 32 [v0, v1, some (.int x)] (.int x :: st) h Q := PW_step rfl rfl rfl rfl
theorem u_86_32 : PW B X 86 32 lv (.int q0 :: .ref a :: st) h Q ↔ (pm_w st ≤ 8 ∧ pm_io B h a 0 = true ∧ PW B X 88 0 [some (.ref a), some (.int q0), none, none] [] h (fun r h' => PW B X 86 35 lv (r.toList ++ st) h' Q)) := PW_cv (y := 88) (as := [.int q0]) (rest := st) rfl rfl rfl rfl rfl ⟨Nat.le_of_ble_eq_true rfl, Nat.le_of_ble_eq_true rfl, Nat.le_of_ble_eq_true rfl⟩
theorem u_86_35 : PW B X 86 35 [v0, some (.int x), v2] (st) h Q ↔ PW B X 86 36 [v0, some (.int x), v2] (.int x :: st) h Q := PW_step rfl rfl rfl rfl
theorem u_86_36 : PW B X 86 36 lv (.int y :: .int x :: st) h Q ↔ (if ¬ x = y then PW B X 86 41 lv (st) h Q else PW B X 86 39 lv (st) h Q) := PW_icmp rfl rfl pm_c_ne
theorem u_86_39 : PW B X 86 39 [v0, v1, some (.int x)] (st) h Q ↔ PW B X 86 40 [v0, v1, some (.int x)] (.int x :: st) h Q := PW_step rfl rfl rfl rfl
theorem u_86_40 : PW B X 86 40 lv ([.int x]) h Q ↔ Q (some (.int x)) h := PW_ret rfl rfl
theorem u_86_41 : PW B X 86 41 [v0, v1, some (.int x)] (st) h Q ↔ PW B X 86 44 [v0, pm_c v1, some (.int (x + 1))] (st) h Q := PW_step rfl rfl rfl rfl
theorem u_86_44 : PW B X 86 44 lv (st) h Q ↔ PW B X 86 22 lv (st) h Q := PW_step rfl rfl rfl rfl
theorem u_86_47 : PW B X 86 47 lv (st) h Q ↔ PW B X 86 48 lv (.int (-1) :: st) h Q := PW_step rfl rfl rfl rfl
theorem u_86_48 : PW B X 86 48 lv ([.int x]) h Q ↔ Q (some (.int x)) h := PW_ret rfl rfl
-- 87 BM_reckonLoads
theorem u_87_0 : PW B X 87 0 lv (st) h Q ↔ PW B X 87 1 lv (.int 0 :: st) h Q := PW_step rfl rfl rfl rfl
theorem u_87_1 : PW B X 87 1 [v0, v1, v2] (.int x :: st) h Q ↔ PW B X 87 2 [pm_c v0, some (.int x), v2] (st) h Q := PW_step rfl rfl rfl rfl
theorem u_87_2 : PW B X 87 2 [v0, some (.int x), v2] (st) h Q ↔ PW B X 87 3 [v0, some (.int x), v2] (.int x :: st) h Q := PW_step rfl rfl rfl rfl
theorem u_87_3 : PW B X 87 3 [some (.ref a), v1, v2] (st) h Q ↔ PW B X 87 4 [some (.ref a), v1, v2] (.ref a :: st) h Q := PW_step rfl rfl rfl rfl
theorem u_87_3n : PW B X 87 3 [some .null, v1, v2] (st) h Q ↔ PW B X 87 4 [some .null, v1, v2] (.null :: st) h Q := PW_step rfl rfl rfl rfl
theorem u_87_4 : PW B X 87 4 lv (.ref a :: st) h Q ↔ pm_O (pm_gf (pm_at B h a) 0 1) (fun v => PW B X 87 7 lv (v :: st) h Q) := PW_getf rfl rfl
theorem u_87_7 : PW B X 87 7 lv (.int y :: .int x :: st) h Q ↔ (if y ≤ x then PW B X 87 53 lv (st) h Q else PW B X 87 10 lv (st) h Q) := PW_icmp rfl rfl pm_c_ge
theorem u_87_10 : PW B X 87 10 [some (.ref a), v1, v2] (st) h Q ↔ PW B X 87 11 [some (.ref a), v1, v2] (.ref a :: st) h Q := PW_step rfl rfl rfl rfl
theorem u_87_10n : PW B X 87 10 [some .null, v1, v2] (st) h Q ↔ PW B X 87 11 [some .null, v1, v2] (.null :: st) h Q := PW_step rfl rfl rfl rfl
theorem u_87_11 : PW B X 87 11 [v0, some (.int x), v2] (st) h Q ↔ PW B X 87 12 [v0, some (.int x), v2] (.int x :: st) h Q := PW_step rfl rfl rfl rfl
theorem u_87_12 : PW B X 87 12 lv (.int q0 :: .ref a :: st) h Q ↔ (pm_w st ≤ 8 ∧ pm_io B h a 0 = true ∧ PW B X 15 0 [some (.ref a), some (.int q0)] [] h (fun r h' => PW B X 87 15 lv (r.toList ++ st) h' Q)) := PW_cv (y := 15) (as := [.int q0]) (rest := st) rfl rfl rfl rfl rfl ⟨Nat.le_of_ble_eq_true rfl, Nat.le_of_ble_eq_true rfl, Nat.le_of_ble_eq_true rfl⟩
theorem u_87_15 : PW B X 87 15 [v0, v1, v2] (.ref a :: st) h Q ↔ PW B X 87 16 [v0, pm_c v1, some (.ref a)] (st) h Q := PW_step rfl rfl rfl rfl
theorem u_87_15n : PW B X 87 15 [v0, v1, v2] (.null :: st) h Q ↔ PW B X 87 16 [v0, pm_c v1, some .null] (st) h Q := PW_step rfl rfl rfl rfl
theorem u_87_16 : PW B X 87 16 [v0, v1, some (.ref a)] (st) h Q ↔ PW B X 87 17 [v0, v1, some (.ref a)] (.ref a :: st) h Q := PW_step rfl rfl rfl rfl
theorem u_87_16n : PW B X 87 16 [v0, v1, some .null] (st) h Q ↔ PW B X 87 17 [v0, v1, some .null] (.null :: st) h Q := PW_step rfl rfl rfl rfl
theorem u_87_17 : PW B X 87 17 lv (.ref a :: st) h Q ↔ PW B X 87 20 lv (st) h Q := PW_step rfl rfl rfl rfl
theorem u_87_17n : PW B X 87 17 lv (.null :: st) h Q ↔ PW B X 87 47 lv (st) h Q := PW_step rfl rfl rfl rfl
theorem u_87_20 : PW B X 87 20 [some (.ref a), v1, v2] (st) h Q ↔ PW B X 87 21 [some (.ref a), v1, v2] (.ref a :: st) h Q := PW_step rfl rfl rfl rfl
theorem u_87_20n : PW B X 87 20 [some .null, v1, v2] (st) h Q ↔ PW B X 87 21 [some .null, v1, v2] (.null :: st) h Q := PW_step rfl rfl rfl rfl
theorem u_87_21 : PW B X 87 21 lv (.ref a :: st) h Q ↔ pm_O (pm_gf (pm_at B h a) 0 7) (fun v => PW B X 87 24 lv (v :: st) h Q) := PW_getf rfl rfl
theorem u_87_24 : PW B X 87 24 [some (.ref a), v1, v2] (st) h Q ↔ PW B X 87 25 [some (.ref a), v1, v2] (.ref a :: st) h Q := PW_step rfl rfl rfl rfl
theorem u_87_24n : PW B X 87 24 [some .null, v1, v2] (st) h Q ↔ PW B X 87 25 [some .null, v1, v2] (.null :: st) h Q := PW_step rfl rfl rfl rfl
theorem u_87_25 : PW B X 87 25 lv (.ref a :: st) h Q ↔ pm_O (pm_gf (pm_at B h a) 0 4) (fun v => PW B X 87 28 lv (v :: st) h Q) := PW_getf rfl rfl
theorem u_87_28 : PW B X 87 28 [v0, v1, some (.ref a)] (st) h Q ↔ PW B X 87 29 [v0, v1, some (.ref a)] (.ref a :: st) h Q := PW_step rfl rfl rfl rfl
theorem u_87_28n : PW B X 87 28 [v0, v1, some .null] (st) h Q ↔ PW B X 87 29 [v0, v1, some .null] (.null :: st) h Q := PW_step rfl rfl rfl rfl
theorem u_87_29 : PW B X 87 29 lv (st) h Q ↔ PW B X 87 30 lv (.int 2 :: st) h Q := PW_step rfl rfl rfl rfl
theorem u_87_30 : PW B X 87 30 lv (.int q2 :: .ref r1 :: .ref r0 :: .ref a :: st) h Q ↔ (pm_w st ≤ 8 ∧ pm_io B h a 6 = true ∧ PW B X 36 0 [some (.ref a), some (.ref r0), some (.ref r1), some (.int q2), none] [] h (fun r h' => PW B X 87 33 lv (r.toList ++ st) h' Q)) := PW_cv (y := 36) (as := [.ref r0, .ref r1, .int q2]) (rest := st) rfl rfl rfl rfl rfl ⟨Nat.le_of_ble_eq_true rfl, Nat.le_of_ble_eq_true rfl, Nat.le_of_ble_eq_true rfl⟩
theorem u_87_33 : PW B X 87 33 [v0, v1, some (.ref a)] (st) h Q ↔ PW B X 87 34 [v0, v1, some (.ref a)] (.ref a :: st) h Q := PW_step rfl rfl rfl rfl
theorem u_87_33n : PW B X 87 33 [v0, v1, some .null] (st) h Q ↔ PW B X 87 34 [v0, v1, some .null] (.null :: st) h Q := PW_step rfl rfl rfl rfl
theorem u_87_34 : PW B X 87 34 lv (.ref a :: st) h Q ↔ pm_O (pm_gf (pm_at B h a) 9 9) (fun v => PW B X 87 37 lv (v :: st) h Q) := PW_getf rfl rfl
theorem u_87_37 : PW B X 87 37 [some (.ref a), v1, v2] (st) h Q ↔ PW B X 87 38 [some (.ref a), v1, v2] (.ref a :: st) h Q := PW_step rfl rfl rfl rfl
theorem u_87_37n : PW B X 87 37 [some .null, v1, v2] (st) h Q ↔ PW B X 87 38 [some .null, v1, v2] (.null :: st) h Q := PW_step rfl rfl rfl rfl
theorem u_87_38 : PW B X 87 38 lv (.ref a :: st) h Q ↔ pm_O (pm_gf (pm_at B h a) 0 7) (fun v => PW B X 87 41 lv (v :: st) h Q) := PW_getf rfl rfl
theorem u_87_41 : PW B X 87 41 lv (.ref a :: st) h Q ↔ pm_O (pm_gf (pm_at B h a) 6 4) (fun v => PW B X 87 44 lv (v :: st) h Q) := PW_getf rfl rfl
theorem u_87_44 : PW B X 87 44 lv (.ref r0 :: .ref a :: st) h Q ↔ (pm_w st ≤ 8 ∧ pm_io B h a 8 = true ∧ PW B X 59 0 [some (.ref a), some (.ref r0)] [] h (fun r h' => PW B X 87 47 lv (r.toList ++ st) h' Q)) := PW_cv (y := 59) (as := [.ref r0]) (rest := st) rfl rfl rfl rfl rfl ⟨Nat.le_of_ble_eq_true rfl, Nat.le_of_ble_eq_true rfl, Nat.le_of_ble_eq_true rfl⟩
theorem u_87_47 : PW B X 87 47 [v0, some (.int x), v2] (st) h Q ↔ PW B X 87 50 [pm_c v0, some (.int (x + 1)), v2] (st) h Q := PW_step rfl rfl rfl rfl
theorem u_87_50 : PW B X 87 50 lv (st) h Q ↔ PW B X 87 2 lv (st) h Q := PW_step rfl rfl rfl rfl
theorem u_87_53 : PW B X 87 53 lv ([]) h Q ↔ Q none h := PW_ret rfl rfl
-- 88 BM_placeOfInspection
theorem u_88_0 : PW B X 88 0 lv (st) h Q ↔ PW B X 88 1 lv (.int 0 :: st) h Q := PW_step rfl rfl rfl rfl
theorem u_88_1 : PW B X 88 1 [v0, v1, v2, v3] (.int x :: st) h Q ↔ PW B X 88 2 [v0, pm_c v1, some (.int x), v3] (st) h Q := PW_step rfl rfl rfl rfl
theorem u_88_2 : PW B X 88 2 lv (st) h Q ↔ PW B X 88 3 lv (.int 0 :: st) h Q := PW_step rfl rfl rfl rfl
theorem u_88_3 : PW B X 88 3 [v0, v1, v2, v3] (.int x :: st) h Q ↔ PW B X 88 4 [v0, v1, pm_c v2, some (.int x)] (st) h Q := PW_step rfl rfl rfl rfl
theorem u_88_4 : PW B X 88 4 [v0, v1, v2, some (.int x)] (st) h Q ↔ PW B X 88 5 [v0, v1, v2, some (.int x)] (.int x :: st) h Q := PW_step rfl rfl rfl rfl
theorem u_88_5 : PW B X 88 5 [some (.ref a), v1, v2, v3] (st) h Q ↔ PW B X 88 6 [some (.ref a), v1, v2, v3] (.ref a :: st) h Q := PW_step rfl rfl rfl rfl
theorem u_88_5n : PW B X 88 5 [some .null, v1, v2, v3] (st) h Q ↔ PW B X 88 6 [some .null, v1, v2, v3] (.null :: st) h Q := PW_step rfl rfl rfl rfl
theorem u_88_6 : PW B X 88 6 lv (.ref a :: st) h Q ↔ pm_O (pm_gf (pm_at B h a) 0 1) (fun v => PW B X 88 9 lv (v :: st) h Q) := PW_getf rfl rfl
theorem u_88_9 : PW B X 88 9 lv (.int y :: .int x :: st) h Q ↔ (if y ≤ x then PW B X 88 35 lv (st) h Q else PW B X 88 12 lv (st) h Q) := PW_icmp rfl rfl pm_c_ge
theorem u_88_12 : PW B X 88 12 [v0, v1, v2, some (.int x)] (st) h Q ↔ PW B X 88 13 [v0, v1, v2, some (.int x)] (.int x :: st) h Q := PW_step rfl rfl rfl rfl
theorem u_88_13 : PW B X 88 13 [v0, some (.int x), v2, v3] (st) h Q ↔ PW B X 88 14 [v0, some (.int x), v2, v3] (.int x :: st) h Q := PW_step rfl rfl rfl rfl
theorem u_88_14 : PW B X 88 14 lv (.int y :: .int x :: st) h Q ↔ (if x = y then PW B X 88 29 lv (st) h Q else PW B X 88 17 lv (st) h Q) := PW_icmp rfl rfl pm_c_eq
theorem u_88_17 : PW B X 88 17 [some (.ref a), v1, v2, v3] (st) h Q ↔ PW B X 88 18 [some (.ref a), v1, v2, v3] (.ref a :: st) h Q := PW_step rfl rfl rfl rfl
theorem u_88_17n : PW B X 88 17 [some .null, v1, v2, v3] (st) h Q ↔ PW B X 88 18 [some .null, v1, v2, v3] (.null :: st) h Q := PW_step rfl rfl rfl rfl
theorem u_88_18 : PW B X 88 18 [v0, v1, v2, some (.int x)] (st) h Q ↔ PW B X 88 19 [v0, v1, v2, some (.int x)] (.int x :: st) h Q := PW_step rfl rfl rfl rfl
theorem u_88_19 : PW B X 88 19 [v0, some (.int x), v2, v3] (st) h Q ↔ PW B X 88 20 [v0, some (.int x), v2, v3] (.int x :: st) h Q := PW_step rfl rfl rfl rfl
theorem u_88_20 : PW B X 88 20 lv (.int q1 :: .int q0 :: .ref a :: st) h Q ↔ (pm_w st ≤ 8 ∧ pm_io B h a 0 = true ∧ PW B X 89 0 [some (.ref a), some (.int q0), some (.int q1), none, none, none, none] [] h (fun r h' => PW B X 88 23 lv (r.toList ++ st) h' Q)) := PW_cv (y := 89) (as := [.int q0, .int q1]) (rest := st) rfl rfl rfl rfl rfl ⟨Nat.le_of_ble_eq_true rfl, Nat.le_of_ble_eq_true rfl, Nat.le_of_ble_eq_true rfl⟩
theorem u_88_23 : PW B X 88 23 lv (.int x :: st) h Q ↔ (if x = 0 then PW B X 88 29 lv (st) h Q else PW B X 88 26 lv (st) h Q) := PW_if rfl rfl pm_c_eq
theorem u_88_26 : PW B X 88 26 [v0, v1, some (.int x), v3] (st) h Q ↔ PW B X 88 29 [v0, pm_c v1, some (.int (x + 1)), v3] (st) h Q := PW_step rfl rfl rfl rfl
theorem u_88_29 : PW B X 88 29 [v0, v1, v2, some (.int x)] (st) h Q ↔ PW B X 88 32 [v0, v1, pm_c v2, some (.int (x + 1))] (st) h Q := PW_step rfl rfl rfl rfl
theorem u_88_32 : PW B X 88 32 lv (st) h Q ↔ PW B X 88 4 lv (st) h Q := PW_step rfl rfl rfl rfl
theorem u_88_35 : PW B X 88 35 [v0, v1, some (.int x), v3] (st) h Q ↔ PW B X 88 36 [v0, v1, some (.int x), v3] (.int x :: st) h Q := PW_step rfl rfl rfl rfl
theorem u_88_36 : PW B X 88 36 lv ([.int x]) h Q ↔ Q (some (.int x)) h := PW_ret rfl rfl
-- 89 BM_isInspectedBefore
theorem u_89_0 : PW B X 89 0 [some (.ref a), v1, v2, v3, v4, v5, v6] (st) h Q ↔ PW B X 89 1 [some (.ref a), v1, v2, v3, v4, v5, v6] (.ref a :: st) h Q := PW_step rfl rfl rfl rfl
theorem u_89_0n : PW B X 89 0 [some .null, v1, v2, v3, v4, v5, v6] (st) h Q ↔ PW B X 89 1 [some .null, v1, v2, v3, v4, v5, v6] (.null :: st) h Q := PW_step rfl rfl rfl rfl
theorem u_89_1 : PW B X 89 1 [v0, some (.int x), v2, v3, v4, v5, v6] (st) h Q ↔ PW B X 89 2 [v0, some (.int x), v2, v3, v4, v5, v6] (.int x :: st) h Q := PW_step rfl rfl rfl rfl
theorem u_89_2 : PW B X 89 2 lv (.int q0 :: .ref a :: st) h Q ↔ (pm_w st ≤ 8 ∧ pm_io B h a 0 = true ∧ PW B X 15 0 [some (.ref a), some (.int q0)] [] h (fun r h' => PW B X 89 5 lv (r.toList ++ st) h' Q)) := PW_cv (y := 15) (as := [.int q0]) (rest := st) rfl rfl rfl rfl rfl ⟨Nat.le_of_ble_eq_true rfl, Nat.le_of_ble_eq_true rfl, Nat.le_of_ble_eq_true rfl⟩
theorem u_89_5 : PW B X 89 5 [v0, v1, v2, v3, v4, v5, v6] (.ref a :: st) h Q ↔ PW B X 89 6 [v0, v1, pm_c v2, some (.ref a), v4, v5, v6] (st) h Q := PW_step rfl rfl rfl rfl
theorem u_89_5n : PW B X 89 5 [v0, v1, v2, v3, v4, v5, v6] (.null :: st) h Q ↔ PW B X 89 6 [v0, v1, pm_c v2, some .null, v4, v5, v6] (st) h Q := PW_step rfl rfl rfl rfl
theorem u_89_6 : PW B X 89 6 [some (.ref a), v1, v2, v3, v4, v5, v6] (st) h Q ↔ PW B X 89 7 [some (.ref a), v1, v2, v3, v4, v5, v6] (.ref a :: st) h Q := PW_step rfl rfl rfl rfl
theorem u_89_6n : PW B X 89 6 [some .null, v1, v2, v3, v4, v5, v6] (st) h Q ↔ PW B X 89 7 [some .null, v1, v2, v3, v4, v5, v6] (.null :: st) h Q := PW_step rfl rfl rfl rfl
theorem u_89_7 : PW B X 89 7 [v0, v1, some (.int x), v3, v4, v5, v6] (st) h Q ↔ PW B X 89 8 [v0, v1, some (.int x), v3, v4, v5, v6] (.int x :: st) h Q := PW_step rfl rfl rfl rfl
theorem u_89_8 : PW B X 89 8 lv (.int q0 :: .ref a :: st) h Q ↔ (pm_w st ≤ 8 ∧ pm_io B h a 0 = true ∧ PW B X 15 0 [some (.ref a), some (.int q0)] [] h (fun r h' => PW B X 89 11 lv (r.toList ++ st) h' Q)) := PW_cv (y := 15) (as := [.int q0]) (rest := st) rfl rfl rfl rfl rfl ⟨Nat.le_of_ble_eq_true rfl, Nat.le_of_ble_eq_true rfl, Nat.le_of_ble_eq_true rfl⟩
theorem u_89_11 : PW B X 89 11 [v0, v1, v2, v3, v4, v5, v6] (.ref a :: st) h Q ↔ PW B X 89 13 [v0, v1, v2, pm_c v3, some (.ref a), v5, v6] (st) h Q := PW_step rfl rfl rfl rfl
theorem u_89_11n : PW B X 89 11 [v0, v1, v2, v3, v4, v5, v6] (.null :: st) h Q ↔ PW B X 89 13 [v0, v1, v2, pm_c v3, some .null, v5, v6] (st) h Q := PW_step rfl rfl rfl rfl
theorem u_89_13 : PW B X 89 13 [v0, v1, v2, some (.ref a), v4, v5, v6] (st) h Q ↔ PW B X 89 14 [v0, v1, v2, some (.ref a), v4, v5, v6] (.ref a :: st) h Q := PW_step rfl rfl rfl rfl
theorem u_89_13n : PW B X 89 13 [v0, v1, v2, some .null, v4, v5, v6] (st) h Q ↔ PW B X 89 14 [v0, v1, v2, some .null, v4, v5, v6] (.null :: st) h Q := PW_step rfl rfl rfl rfl
theorem u_89_14 : PW B X 89 14 lv (.ref a :: st) h Q ↔ PW B X 89 17 lv (st) h Q := PW_step rfl rfl rfl rfl
theorem u_89_14n : PW B X 89 14 lv (.null :: st) h Q ↔ PW B X 89 22 lv (st) h Q := PW_step rfl rfl rfl rfl
theorem u_89_17 : PW B X 89 17 [v0, v1, v2, v3, some (.ref a), v5, v6] (st) h Q ↔ PW B X 89 19 [v0, v1, v2, v3, some (.ref a), v5, v6] (.ref a :: st) h Q := PW_step rfl rfl rfl rfl
theorem u_89_17n : PW B X 89 17 [v0, v1, v2, v3, some .null, v5, v6] (st) h Q ↔ PW B X 89 19 [v0, v1, v2, v3, some .null, v5, v6] (.null :: st) h Q := PW_step rfl rfl rfl rfl
theorem u_89_19 : PW B X 89 19 lv (.ref a :: st) h Q ↔ PW B X 89 24 lv (st) h Q := PW_step rfl rfl rfl rfl
theorem u_89_19n : PW B X 89 19 lv (.null :: st) h Q ↔ PW B X 89 22 lv (st) h Q := PW_step rfl rfl rfl rfl
theorem u_89_22 : PW B X 89 22 lv (st) h Q ↔ PW B X 89 23 lv (.int 0 :: st) h Q := PW_step rfl rfl rfl rfl
theorem u_89_23 (hx : narrow .boolean (.int x) = .int x) : PW B X 89 23 lv ([.int x]) h Q ↔ Q (some (.int x)) h := PW_bret rfl rfl (by simp) hx
theorem u_89_23_0 : PW B X 89 23 lv ([.int 0]) h Q ↔ Q (some (.int 0)) h := u_89_23 rfl
theorem u_89_23_1 : PW B X 89 23 lv ([.int 1]) h Q ↔ Q (some (.int 1)) h := u_89_23 rfl
theorem u_89_24 : PW B X 89 24 [v0, v1, v2, some (.ref a), v4, v5, v6] (st) h Q ↔ PW B X 89 25 [v0, v1, v2, some (.ref a), v4, v5, v6] (.ref a :: st) h Q := PW_step rfl rfl rfl rfl
theorem u_89_24n : PW B X 89 24 [v0, v1, v2, some .null, v4, v5, v6] (st) h Q ↔ PW B X 89 25 [v0, v1, v2, some .null, v4, v5, v6] (.null :: st) h Q := PW_step rfl rfl rfl rfl
theorem u_89_25 : PW B X 89 25 [some (.ref a), v1, v2, v3, v4, v5, v6] (st) h Q ↔ PW B X 89 26 [some (.ref a), v1, v2, v3, v4, v5, v6] (.ref a :: st) h Q := PW_step rfl rfl rfl rfl
theorem u_89_25n : PW B X 89 25 [some .null, v1, v2, v3, v4, v5, v6] (st) h Q ↔ PW B X 89 26 [some .null, v1, v2, v3, v4, v5, v6] (.null :: st) h Q := PW_step rfl rfl rfl rfl
theorem u_89_26 : PW B X 89 26 lv (.ref a :: st) h Q ↔ pm_O (pm_gf (pm_at B h a) 0 12) (fun v => PW B X 89 29 lv (v :: st) h Q) := PW_getf rfl rfl
theorem u_89_29 : PW B X 89 29 lv (.long p0 :: .ref a :: st) h Q ↔ (pm_w st ≤ 8 ∧ pm_io B h a 9 = true ∧ PW B X 76 0 [some (.ref a), some (.long p0), none] [] h (fun r h' => PW B X 89 32 lv (r.toList ++ st) h' Q)) := PW_cv (y := 76) (as := [.long p0]) (rest := st) rfl rfl rfl rfl rfl ⟨Nat.le_of_ble_eq_true rfl, Nat.le_of_ble_eq_true rfl, Nat.le_of_ble_eq_true rfl⟩
theorem u_89_32 : PW B X 89 32 [v0, v1, v2, v3, some (.ref a), v5, v6] (st) h Q ↔ PW B X 89 34 [v0, v1, v2, v3, some (.ref a), v5, v6] (.ref a :: st) h Q := PW_step rfl rfl rfl rfl
theorem u_89_32n : PW B X 89 32 [v0, v1, v2, v3, some .null, v5, v6] (st) h Q ↔ PW B X 89 34 [v0, v1, v2, v3, some .null, v5, v6] (.null :: st) h Q := PW_step rfl rfl rfl rfl
theorem u_89_34 : PW B X 89 34 [some (.ref a), v1, v2, v3, v4, v5, v6] (st) h Q ↔ PW B X 89 35 [some (.ref a), v1, v2, v3, v4, v5, v6] (.ref a :: st) h Q := PW_step rfl rfl rfl rfl
theorem u_89_34n : PW B X 89 34 [some .null, v1, v2, v3, v4, v5, v6] (st) h Q ↔ PW B X 89 35 [some .null, v1, v2, v3, v4, v5, v6] (.null :: st) h Q := PW_step rfl rfl rfl rfl
theorem u_89_35 : PW B X 89 35 lv (.ref a :: st) h Q ↔ pm_O (pm_gf (pm_at B h a) 0 12) (fun v => PW B X 89 38 lv (v :: st) h Q) := PW_getf rfl rfl
theorem u_89_38 : PW B X 89 38 lv (.long p0 :: .ref a :: st) h Q ↔ (pm_w st ≤ 8 ∧ pm_io B h a 9 = true ∧ PW B X 76 0 [some (.ref a), some (.long p0), none] [] h (fun r h' => PW B X 89 41 lv (r.toList ++ st) h' Q)) := PW_cv (y := 76) (as := [.long p0]) (rest := st) rfl rfl rfl rfl rfl ⟨Nat.le_of_ble_eq_true rfl, Nat.le_of_ble_eq_true rfl, Nat.le_of_ble_eq_true rfl⟩
theorem u_89_41 : PW B X 89 41 lv (.long p1 :: .long p0 :: st) h Q ↔ (pm_w st ≤ 8 ∧ PW B X 52 0 [some (.long p0), none, some (.long p1), none] [] h (fun r h' => PW B X 89 44 lv (r.toList ++ st) h' Q)) := PW_cs (y := 52) (as := [.long p0, .long p1]) (rest := st) rfl rfl rfl rfl rfl ⟨Nat.le_of_ble_eq_true rfl, Nat.le_of_ble_eq_true rfl, Nat.le_of_ble_eq_true rfl⟩
theorem u_89_44 : PW B X 89 44 [v0, v1, v2, v3, v4, v5, v6] (.int x :: st) h Q ↔ PW B X 89 46 [v0, v1, v2, v3, pm_c v4, some (.int x), v6] (st) h Q := PW_step rfl rfl rfl rfl
theorem u_89_46 : PW B X 89 46 [v0, v1, v2, v3, v4, some (.int x), v6] (st) h Q ↔ PW B X 89 48 [v0, v1, v2, v3, v4, some (.int x), v6] (.int x :: st) h Q := PW_step rfl rfl rfl rfl
theorem u_89_48 : PW B X 89 48 lv (.int x :: st) h Q ↔ (if x = 0 then PW B X 89 62 lv (st) h Q else PW B X 89 51 lv (st) h Q) := PW_if rfl rfl pm_c_eq
theorem u_89_51 : PW B X 89 51 [v0, v1, v2, v3, v4, some (.int x), v6] (st) h Q ↔ PW B X 89 53 [v0, v1, v2, v3, v4, some (.int x), v6] (.int x :: st) h Q := PW_step rfl rfl rfl rfl
theorem u_89_53 : PW B X 89 53 lv (.int x :: st) h Q ↔ (if x ≤ 0 then PW B X 89 60 lv (st) h Q else PW B X 89 56 lv (st) h Q) := PW_if rfl rfl pm_c_le
theorem u_89_56 : PW B X 89 56 lv (st) h Q ↔ PW B X 89 57 lv (.int 1 :: st) h Q := PW_step rfl rfl rfl rfl
theorem u_89_57 : PW B X 89 57 lv (st) h Q ↔ PW B X 89 61 lv (st) h Q := PW_step rfl rfl rfl rfl
theorem u_89_60 : PW B X 89 60 lv (st) h Q ↔ PW B X 89 61 lv (.int 0 :: st) h Q := PW_step rfl rfl rfl rfl
theorem u_89_61 (hx : narrow .boolean (.int x) = .int x) : PW B X 89 61 lv ([.int x]) h Q ↔ Q (some (.int x)) h := PW_bret rfl rfl (by simp) hx
theorem u_89_61_0 : PW B X 89 61 lv ([.int 0]) h Q ↔ Q (some (.int 0)) h := u_89_61 rfl
theorem u_89_61_1 : PW B X 89 61 lv ([.int 1]) h Q ↔ Q (some (.int 1)) h := u_89_61 rfl
theorem u_89_62 : PW B X 89 62 [some (.ref a), v1, v2, v3, v4, v5, v6] (st) h Q ↔ PW B X 89 63 [some (.ref a), v1, v2, v3, v4, v5, v6] (.ref a :: st) h Q := PW_step rfl rfl rfl rfl
theorem u_89_62n : PW B X 89 62 [some .null, v1, v2, v3, v4, v5, v6] (st) h Q ↔ PW B X 89 63 [some .null, v1, v2, v3, v4, v5, v6] (.null :: st) h Q := PW_step rfl rfl rfl rfl
theorem u_89_63 : PW B X 89 63 lv (.ref a :: st) h Q ↔ pm_O (pm_gf (pm_at B h a) 0 6) (fun v => PW B X 89 66 lv (v :: st) h Q) := PW_getf rfl rfl
theorem u_89_66 : PW B X 89 66 [v0, v1, v2, some (.ref a), v4, v5, v6] (st) h Q ↔ PW B X 89 67 [v0, v1, v2, some (.ref a), v4, v5, v6] (.ref a :: st) h Q := PW_step rfl rfl rfl rfl
theorem u_89_66n : PW B X 89 66 [v0, v1, v2, some .null, v4, v5, v6] (st) h Q ↔ PW B X 89 67 [v0, v1, v2, some .null, v4, v5, v6] (.null :: st) h Q := PW_step rfl rfl rfl rfl
theorem u_89_67 : PW B X 89 67 lv (.ref a :: st) h Q ↔ pm_O (pm_gf (pm_at B h a) 9 9) (fun v => PW B X 89 70 lv (v :: st) h Q) := PW_getf rfl rfl
theorem u_89_70 : PW B X 89 70 [v0, v1, v2, v3, some (.ref a), v5, v6] (st) h Q ↔ PW B X 89 72 [v0, v1, v2, v3, some (.ref a), v5, v6] (.ref a :: st) h Q := PW_step rfl rfl rfl rfl
theorem u_89_70n : PW B X 89 70 [v0, v1, v2, v3, some .null, v5, v6] (st) h Q ↔ PW B X 89 72 [v0, v1, v2, v3, some .null, v5, v6] (.null :: st) h Q := PW_step rfl rfl rfl rfl
theorem u_89_72 : PW B X 89 72 lv (.ref a :: st) h Q ↔ pm_O (pm_gf (pm_at B h a) 9 9) (fun v => PW B X 89 75 lv (v :: st) h Q) := PW_getf rfl rfl
theorem u_89_75 : PW B X 89 75 lv (.ref r1 :: .ref r0 :: .ref a :: st) h Q ↔ (pm_w st ≤ 8 ∧ pm_io B h a 4 = true ∧ PW B X 56 0 [some (.ref a), some (.ref r0), some (.ref r1)] [] h (fun r h' => PW B X 89 78 lv (r.toList ++ st) h' Q)) := PW_cv (y := 56) (as := [.ref r0, .ref r1]) (rest := st) rfl rfl rfl rfl rfl ⟨Nat.le_of_ble_eq_true rfl, Nat.le_of_ble_eq_true rfl, Nat.le_of_ble_eq_true rfl⟩
theorem u_89_78 : PW B X 89 78 [v0, v1, v2, v3, v4, v5, v6] (.int x :: st) h Q ↔ PW B X 89 80 [v0, v1, v2, v3, v4, pm_c v5, some (.int x)] (st) h Q := PW_step rfl rfl rfl rfl
theorem u_89_80 : PW B X 89 80 [v0, v1, v2, v3, v4, v5, some (.int x)] (st) h Q ↔ PW B X 89 82 [v0, v1, v2, v3, v4, v5, some (.int x)] (.int x :: st) h Q := PW_step rfl rfl rfl rfl
theorem u_89_82 : PW B X 89 82 lv (.int x :: st) h Q ↔ (if x = 0 then PW B X 89 98 lv (st) h Q else PW B X 89 85 lv (st) h Q) := PW_if rfl rfl pm_c_eq
theorem u_89_85 : PW B X 89 85 [v0, v1, v2, v3, v4, v5, some (.int x)] (st) h Q ↔ PW B X 89 87 [v0, v1, v2, v3, v4, v5, some (.int x)] (.int x :: st) h Q := PW_step rfl rfl rfl rfl
theorem u_89_87 : PW B X 89 87 lv (.int x :: st) h Q ↔ (if x ≤ 0 then PW B X 89 94 lv (st) h Q else PW B X 89 90 lv (st) h Q) := PW_if rfl rfl pm_c_le
theorem u_89_90 : PW B X 89 90 lv (st) h Q ↔ PW B X 89 91 lv (.int 1 :: st) h Q := PW_step rfl rfl rfl rfl
theorem u_89_91 : PW B X 89 91 lv (st) h Q ↔ PW B X 89 108 lv (st) h Q := PW_step rfl rfl rfl rfl
theorem u_89_94 : PW B X 89 94 lv (st) h Q ↔ PW B X 89 95 lv (.int 0 :: st) h Q := PW_step rfl rfl rfl rfl
theorem u_89_95 : PW B X 89 95 lv (st) h Q ↔ PW B X 89 108 lv (st) h Q := PW_step rfl rfl rfl rfl
theorem u_89_98 : PW B X 89 98 [v0, some (.int x), v2, v3, v4, v5, v6] (st) h Q ↔ PW B X 89 99 [v0, some (.int x), v2, v3, v4, v5, v6] (.int x :: st) h Q := PW_step rfl rfl rfl rfl
theorem u_89_99 : PW B X 89 99 [v0, v1, some (.int x), v3, v4, v5, v6] (st) h Q ↔ PW B X 89 100 [v0, v1, some (.int x), v3, v4, v5, v6] (.int x :: st) h Q := PW_step rfl rfl rfl rfl
theorem u_89_100 : PW B X 89 100 lv (.int y :: .int x :: st) h Q ↔ (if y ≤ x then PW B X 89 107 lv (st) h Q else PW B X 89 103 lv (st) h Q) := PW_icmp rfl rfl pm_c_ge
theorem u_89_103 : PW B X 89 103 lv (st) h Q ↔ PW B X 89 104 lv (.int 1 :: st) h Q := PW_step rfl rfl rfl rfl
theorem u_89_104 : PW B X 89 104 lv (st) h Q ↔ PW B X 89 108 lv (st) h Q := PW_step rfl rfl rfl rfl
theorem u_89_107 : PW B X 89 107 lv (st) h Q ↔ PW B X 89 108 lv (.int 0 :: st) h Q := PW_step rfl rfl rfl rfl
theorem u_89_108 (hx : narrow .boolean (.int x) = .int x) : PW B X 89 108 lv ([.int x]) h Q ↔ Q (some (.int x)) h := PW_bret rfl rfl (by simp) hx
theorem u_89_108_0 : PW B X 89 108 lv ([.int 0]) h Q ↔ Q (some (.int 0)) h := u_89_108 rfl
theorem u_89_108_1 : PW B X 89 108 lv ([.int 1]) h Q ↔ Q (some (.int 1)) h := u_89_108 rfl
-- 90 BM_count
theorem u_90_0 : PW B X 90 0 [v0, some (.int x)] (st) h Q ↔ PW B X 90 1 [v0, some (.int x)] (.int x :: st) h Q := PW_step rfl rfl rfl rfl
theorem u_90_1_0 : PW B X 90 1 lv (.int 0 :: st) h Q ↔ PW B X 90 44 lv (st) h Q := PW_step rfl rfl rfl rfl
theorem u_90_1_1 : PW B X 90 1 lv (.int 1 :: st) h Q ↔ PW B X 90 49 lv (st) h Q := PW_step rfl rfl rfl rfl
theorem u_90_1_2 : PW B X 90 1 lv (.int 2 :: st) h Q ↔ PW B X 90 57 lv (st) h Q := PW_step rfl rfl rfl rfl
theorem u_90_1_3 : PW B X 90 1 lv (.int 3 :: st) h Q ↔ PW B X 90 65 lv (st) h Q := PW_step rfl rfl rfl rfl
theorem u_90_1_4 : PW B X 90 1 lv (.int 4 :: st) h Q ↔ PW B X 90 70 lv (st) h Q := PW_step rfl rfl rfl rfl
theorem u_90_1_5 : PW B X 90 1 lv (.int 5 :: st) h Q ↔ PW B X 90 75 lv (st) h Q := PW_step rfl rfl rfl rfl
theorem u_90_1_6 : PW B X 90 1 lv (.int 6 :: st) h Q ↔ PW B X 90 80 lv (st) h Q := PW_step rfl rfl rfl rfl
theorem u_90_1_d (hx : x.toInt < 0 ∨ 6 < x.toInt) : PW B X 90 1 lv (.int x :: st) h Q ↔ PW B X 90 88 lv (st) h Q := PW_tout rfl rfl hx
theorem u_90_44 : PW B X 90 44 [some (.ref a), v1] (st) h Q ↔ PW B X 90 45 [some (.ref a), v1] (.ref a :: st) h Q := PW_step rfl rfl rfl rfl
theorem u_90_44n : PW B X 90 44 [some .null, v1] (st) h Q ↔ PW B X 90 45 [some .null, v1] (.null :: st) h Q := PW_step rfl rfl rfl rfl
theorem u_90_45 : PW B X 90 45 lv (.ref a :: st) h Q ↔ pm_O (pm_gf (pm_at B h a) 0 1) (fun v => PW B X 90 48 lv (v :: st) h Q) := PW_getf rfl rfl
theorem u_90_48 : PW B X 90 48 lv ([.int x]) h Q ↔ Q (some (.int x)) h := PW_ret rfl rfl
theorem u_90_49 : PW B X 90 49 [some (.ref a), v1] (st) h Q ↔ PW B X 90 50 [some (.ref a), v1] (.ref a :: st) h Q := PW_step rfl rfl rfl rfl
theorem u_90_49n : PW B X 90 49 [some .null, v1] (st) h Q ↔ PW B X 90 50 [some .null, v1] (.null :: st) h Q := PW_step rfl rfl rfl rfl
theorem u_90_50 : PW B X 90 50 lv (.ref a :: st) h Q ↔ pm_O (pm_gf (pm_at B h a) 0 4) (fun v => PW B X 90 53 lv (v :: st) h Q) := PW_getf rfl rfl
theorem u_90_53 : PW B X 90 53 lv (.ref a :: st) h Q ↔ pm_O (pm_gf (pm_at B h a) 3 5) (fun v => PW B X 90 56 lv (v :: st) h Q) := PW_getf rfl rfl
theorem u_90_56 : PW B X 90 56 lv ([.int x]) h Q ↔ Q (some (.int x)) h := PW_ret rfl rfl
theorem u_90_57 : PW B X 90 57 [some (.ref a), v1] (st) h Q ↔ PW B X 90 58 [some (.ref a), v1] (.ref a :: st) h Q := PW_step rfl rfl rfl rfl
theorem u_90_57n : PW B X 90 57 [some .null, v1] (st) h Q ↔ PW B X 90 58 [some .null, v1] (.null :: st) h Q := PW_step rfl rfl rfl rfl
theorem u_90_58 : PW B X 90 58 lv (.ref a :: st) h Q ↔ pm_O (pm_gf (pm_at B h a) 0 4) (fun v => PW B X 90 61 lv (v :: st) h Q) := PW_getf rfl rfl
theorem u_90_61 : PW B X 90 61 lv (.ref a :: st) h Q ↔ pm_O (pm_gf (pm_at B h a) 3 6) (fun v => PW B X 90 64 lv (v :: st) h Q) := PW_getf rfl rfl
theorem u_90_64 : PW B X 90 64 lv ([.int x]) h Q ↔ Q (some (.int x)) h := PW_ret rfl rfl
theorem u_90_65 : PW B X 90 65 [some (.ref a), v1] (st) h Q ↔ PW B X 90 66 [some (.ref a), v1] (.ref a :: st) h Q := PW_step rfl rfl rfl rfl
theorem u_90_65n : PW B X 90 65 [some .null, v1] (st) h Q ↔ PW B X 90 66 [some .null, v1] (.null :: st) h Q := PW_step rfl rfl rfl rfl
theorem u_90_66 : PW B X 90 66 lv (.ref a :: st) h Q ↔ pm_O (pm_gf (pm_at B h a) 0 10) (fun v => PW B X 90 69 lv (v :: st) h Q) := PW_getf rfl rfl
theorem u_90_69 : PW B X 90 69 lv ([.int x]) h Q ↔ Q (some (.int x)) h := PW_ret rfl rfl
theorem u_90_70 : PW B X 90 70 [some (.ref a), v1] (st) h Q ↔ PW B X 90 71 [some (.ref a), v1] (.ref a :: st) h Q := PW_step rfl rfl rfl rfl
theorem u_90_70n : PW B X 90 70 [some .null, v1] (st) h Q ↔ PW B X 90 71 [some .null, v1] (.null :: st) h Q := PW_step rfl rfl rfl rfl
theorem u_90_71 : PW B X 90 71 lv (.ref a :: st) h Q ↔ pm_O (pm_gf (pm_at B h a) 0 15) (fun v => PW B X 90 74 lv (v :: st) h Q) := PW_getf rfl rfl
theorem u_90_74 : PW B X 90 74 lv ([.int x]) h Q ↔ Q (some (.int x)) h := PW_ret rfl rfl
theorem u_90_75 : PW B X 90 75 [some (.ref a), v1] (st) h Q ↔ PW B X 90 76 [some (.ref a), v1] (.ref a :: st) h Q := PW_step rfl rfl rfl rfl
theorem u_90_75n : PW B X 90 75 [some .null, v1] (st) h Q ↔ PW B X 90 76 [some .null, v1] (.null :: st) h Q := PW_step rfl rfl rfl rfl
theorem u_90_76 : PW B X 90 76 lv (.ref a :: st) h Q ↔ (pm_w st ≤ 8 ∧ pm_io B h a 0 = true ∧ PW B X 91 0 [some (.ref a), none, none, none] [] h (fun r h' => PW B X 90 79 lv (r.toList ++ st) h' Q)) := PW_cv (y := 91) (as := []) (rest := st) rfl rfl rfl rfl rfl ⟨Nat.le_of_ble_eq_true rfl, Nat.le_of_ble_eq_true rfl, Nat.le_of_ble_eq_true rfl⟩
theorem u_90_79 : PW B X 90 79 lv ([.int x]) h Q ↔ Q (some (.int x)) h := PW_ret rfl rfl
theorem u_90_80 : PW B X 90 80 [some (.ref a), v1] (st) h Q ↔ PW B X 90 81 [some (.ref a), v1] (.ref a :: st) h Q := PW_step rfl rfl rfl rfl
theorem u_90_80n : PW B X 90 80 [some .null, v1] (st) h Q ↔ PW B X 90 81 [some .null, v1] (.null :: st) h Q := PW_step rfl rfl rfl rfl
theorem u_90_81 : PW B X 90 81 lv (.ref a :: st) h Q ↔ pm_O (pm_gf (pm_at B h a) 0 3) (fun v => PW B X 90 84 lv (v :: st) h Q) := PW_getf rfl rfl
theorem u_90_84 : PW B X 90 84 lv (.ref a :: st) h Q ↔ pm_O (pm_gf (pm_at B h a) 2 1) (fun v => PW B X 90 87 lv (v :: st) h Q) := PW_getf rfl rfl
theorem u_90_87 : PW B X 90 87 lv ([.int x]) h Q ↔ Q (some (.int x)) h := PW_ret rfl rfl
theorem u_90_88 : PW B X 90 88 lv (st) h Q ↔ PW B X 90 89 lv (.int (-1) :: st) h Q := PW_step rfl rfl rfl rfl
theorem u_90_89 : PW B X 90 89 lv ([.int x]) h Q ↔ Q (some (.int x)) h := PW_ret rfl rfl
-- 91 BM_heldInAll
theorem u_91_0 : PW B X 91 0 lv (st) h Q ↔ PW B X 91 1 lv (.int 0 :: st) h Q := PW_step rfl rfl rfl rfl
theorem u_91_1 : PW B X 91 1 [v0, v1, v2, v3] (.int x :: st) h Q ↔ PW B X 91 2 [pm_c v0, some (.int x), v2, v3] (st) h Q := PW_step rfl rfl rfl rfl
theorem u_91_2 : PW B X 91 2 lv (st) h Q ↔ PW B X 91 3 lv (.int 0 :: st) h Q := PW_step rfl rfl rfl rfl
theorem u_91_3 : PW B X 91 3 [v0, v1, v2, v3] (.int x :: st) h Q ↔ PW B X 91 4 [v0, pm_c v1, some (.int x), v3] (st) h Q := PW_step rfl rfl rfl rfl
theorem u_91_4 : PW B X 91 4 [v0, v1, some (.int x), v3] (st) h Q ↔ PW B X 91 5 [v0, v1, some (.int x), v3] (.int x :: st) h Q := PW_step rfl rfl rfl rfl
theorem u_91_5 : PW B X 91 5 [some (.ref a), v1, v2, v3] (st) h Q ↔ PW B X 91 6 [some (.ref a), v1, v2, v3] (.ref a :: st) h Q := PW_step rfl rfl rfl rfl
theorem u_91_5n : PW B X 91 5 [some .null, v1, v2, v3] (st) h Q ↔ PW B X 91 6 [some .null, v1, v2, v3] (.null :: st) h Q := PW_step rfl rfl rfl rfl
theorem u_91_6 : PW B X 91 6 lv (.ref a :: st) h Q ↔ pm_O (pm_gf (pm_at B h a) 0 1) (fun v => PW B X 91 9 lv (v :: st) h Q) := PW_getf rfl rfl
theorem u_91_9 : PW B X 91 9 lv (.int y :: .int x :: st) h Q ↔ (if y ≤ x then PW B X 91 56 lv (st) h Q else PW B X 91 12 lv (st) h Q) := PW_icmp rfl rfl pm_c_ge
theorem u_91_12 : PW B X 91 12 [some (.ref a), v1, v2, v3] (st) h Q ↔ PW B X 91 13 [some (.ref a), v1, v2, v3] (.ref a :: st) h Q := PW_step rfl rfl rfl rfl
theorem u_91_12n : PW B X 91 12 [some .null, v1, v2, v3] (st) h Q ↔ PW B X 91 13 [some .null, v1, v2, v3] (.null :: st) h Q := PW_step rfl rfl rfl rfl
theorem u_91_13 : PW B X 91 13 [v0, v1, some (.int x), v3] (st) h Q ↔ PW B X 91 14 [v0, v1, some (.int x), v3] (.int x :: st) h Q := PW_step rfl rfl rfl rfl
theorem u_91_14 : PW B X 91 14 lv (.int q0 :: .ref a :: st) h Q ↔ (pm_w st ≤ 8 ∧ pm_io B h a 0 = true ∧ PW B X 15 0 [some (.ref a), some (.int q0)] [] h (fun r h' => PW B X 91 17 lv (r.toList ++ st) h' Q)) := PW_cv (y := 15) (as := [.int q0]) (rest := st) rfl rfl rfl rfl rfl ⟨Nat.le_of_ble_eq_true rfl, Nat.le_of_ble_eq_true rfl, Nat.le_of_ble_eq_true rfl⟩
theorem u_91_17 : PW B X 91 17 [v0, v1, v2, v3] (.ref a :: st) h Q ↔ PW B X 91 18 [v0, v1, pm_c v2, some (.ref a)] (st) h Q := PW_step rfl rfl rfl rfl
theorem u_91_17n : PW B X 91 17 [v0, v1, v2, v3] (.null :: st) h Q ↔ PW B X 91 18 [v0, v1, pm_c v2, some .null] (st) h Q := PW_step rfl rfl rfl rfl
theorem u_91_18 : PW B X 91 18 [v0, v1, v2, some (.ref a)] (st) h Q ↔ PW B X 91 19 [v0, v1, v2, some (.ref a)] (.ref a :: st) h Q := PW_step rfl rfl rfl rfl
theorem u_91_18n : PW B X 91 18 [v0, v1, v2, some .null] (st) h Q ↔ PW B X 91 19 [v0, v1, v2, some .null] (.null :: st) h Q := PW_step rfl rfl rfl rfl
theorem u_91_19 : PW B X 91 19 lv (.ref a :: st) h Q ↔ PW B X 91 22 lv (st) h Q := PW_step rfl rfl rfl rfl
theorem u_91_19n : PW B X 91 19 lv (.null :: st) h Q ↔ PW B X 91 50 lv (st) h Q := PW_step rfl rfl rfl rfl
theorem u_91_22 : PW B X 91 22 [v0, some (.int x), v2, v3] (st) h Q ↔ PW B X 91 23 [v0, some (.int x), v2, v3] (.int x :: st) h Q := PW_step rfl rfl rfl rfl
theorem u_91_23 : PW B X 91 23 [v0, v1, v2, some (.ref a)] (st) h Q ↔ PW B X 91 24 [v0, v1, v2, some (.ref a)] (.ref a :: st) h Q := PW_step rfl rfl rfl rfl
theorem u_91_23n : PW B X 91 23 [v0, v1, v2, some .null] (st) h Q ↔ PW B X 91 24 [v0, v1, v2, some .null] (.null :: st) h Q := PW_step rfl rfl rfl rfl
theorem u_91_24 : PW B X 91 24 lv (.ref a :: st) h Q ↔ pm_O (pm_gf (pm_at B h a) 9 2) (fun v => PW B X 91 27 lv (v :: st) h Q) := PW_getf rfl rfl
theorem u_91_27 : PW B X 91 27 lv (.int x :: st) h Q ↔ (if x = 0 then PW B X 91 34 lv (st) h Q else PW B X 91 30 lv (st) h Q) := PW_if rfl rfl pm_c_eq
theorem u_91_30 : PW B X 91 30 lv (st) h Q ↔ PW B X 91 31 lv (.int 1 :: st) h Q := PW_step rfl rfl rfl rfl
theorem u_91_31 : PW B X 91 31 lv (st) h Q ↔ PW B X 91 35 lv (st) h Q := PW_step rfl rfl rfl rfl
theorem u_91_34 : PW B X 91 34 lv (st) h Q ↔ PW B X 91 35 lv (.int 0 :: st) h Q := PW_step rfl rfl rfl rfl
theorem u_91_35 : PW B X 91 35 [v0, v1, v2, some (.ref a)] (st) h Q ↔ PW B X 91 36 [v0, v1, v2, some (.ref a)] (.ref a :: st) h Q := PW_step rfl rfl rfl rfl
theorem u_91_35n : PW B X 91 35 [v0, v1, v2, some .null] (st) h Q ↔ PW B X 91 36 [v0, v1, v2, some .null] (.null :: st) h Q := PW_step rfl rfl rfl rfl
theorem u_91_36 : PW B X 91 36 lv (.ref a :: st) h Q ↔ pm_O (pm_gf (pm_at B h a) 9 3) (fun v => PW B X 91 39 lv (v :: st) h Q) := PW_getf rfl rfl
theorem u_91_39 : PW B X 91 39 lv (.int x :: st) h Q ↔ (if x = 0 then PW B X 91 46 lv (st) h Q else PW B X 91 42 lv (st) h Q) := PW_if rfl rfl pm_c_eq
theorem u_91_42 : PW B X 91 42 lv (st) h Q ↔ PW B X 91 43 lv (.int 1 :: st) h Q := PW_step rfl rfl rfl rfl
theorem u_91_43 : PW B X 91 43 lv (st) h Q ↔ PW B X 91 47 lv (st) h Q := PW_step rfl rfl rfl rfl
theorem u_91_46 : PW B X 91 46 lv (st) h Q ↔ PW B X 91 47 lv (.int 0 :: st) h Q := PW_step rfl rfl rfl rfl
theorem u_91_47 : PW B X 91 47 lv (.int y :: .int x :: st) h Q ↔ PW B X 91 48 lv (.int (x + y) :: st) h Q := PW_step rfl rfl rfl rfl
theorem u_91_48 : PW B X 91 48 lv (.int y :: .int x :: st) h Q ↔ PW B X 91 49 lv (.int (x + y) :: st) h Q := PW_step rfl rfl rfl rfl
theorem u_91_49 : PW B X 91 49 [v0, v1, v2, v3] (.int x :: st) h Q ↔ PW B X 91 50 [pm_c v0, some (.int x), v2, v3] (st) h Q := PW_step rfl rfl rfl rfl
theorem u_91_50 : PW B X 91 50 [v0, v1, some (.int x), v3] (st) h Q ↔ PW B X 91 53 [v0, pm_c v1, some (.int (x + 1)), v3] (st) h Q := PW_step rfl rfl rfl rfl
theorem u_91_53 : PW B X 91 53 lv (st) h Q ↔ PW B X 91 4 lv (st) h Q := PW_step rfl rfl rfl rfl
theorem u_91_56 : PW B X 91 56 [v0, some (.int x), v2, v3] (st) h Q ↔ PW B X 91 57 [v0, some (.int x), v2, v3] (.int x :: st) h Q := PW_step rfl rfl rfl rfl
theorem u_91_57 : PW B X 91 57 lv ([.int x]) h Q ↔ Q (some (.int x)) h := PW_ret rfl rfl
end

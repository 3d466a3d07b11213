/-! RULES OF 46.u-refb, an instruction each, written by ugen.py: do not edit. -/
section
variable {B : Nat} {X : pm_X} {lv : pm_L} {st : List Value} {h : pm_H} {Q : Option Value → pm_H → Prop} {v : Value} {x y : Int32} {z w : Int64} {a b : Nat}
variable {v0 v1 v2 v3 v4 v5 v6 v7 v8 v9 v10 v11 v12 v13 v14 v15 : Option Value} {q0 q1 q2 q3 q4 q5 : Int32} {p0 p1 p2 p3 p4 p5 : Int64} {r0 r1 r2 r3 r4 r5 : Nat}
-- 119 Ref_align
theorem u_119_0 : PW B X 119 0 lv (st) h Q ↔ PW B X 119 1 lv (.int 0 :: st) h Q := PW_step rfl rfl rfl rfl
theorem u_119_1 : PW B X 119 1 [v0, v1, v2, v3] (.int x :: st) h Q ↔ PW B X 119 2 [v0, v1, pm_c v2, some (.int x)] (st) h Q := PW_step rfl rfl rfl rfl
theorem u_119_2 : PW B X 119 2 [v0, v1, v2, some (.int x)] (st) h Q ↔ PW B X 119 3 [v0, v1, v2, some (.int x)] (.int x :: st) h Q := PW_step rfl rfl rfl rfl
theorem u_119_3 : PW B X 119 3 lv (st) h Q ↔ PW B X 119 6 lv (.int 168 :: st) h Q := PW_step rfl rfl rfl rfl
theorem u_119_6 : PW B X 119 6 lv (.int y :: .int x :: st) h Q ↔ (if y ≤ x then PW B X 119 129 lv (st) h Q else PW B X 119 9 lv (st) h Q) := PW_icmp rfl rfl pm_c_ge
theorem u_119_9 : PW B X 119 9 [some (.ref a), v1, v2, v3] (st) h Q ↔ PW B X 119 10 [some (.ref a), v1, v2, v3] (.ref a :: st) h Q := PW_step rfl rfl rfl rfl
theorem u_119_9n : PW B X 119 9 [some .null, v1, v2, v3] (st) h Q ↔ PW B X 119 10 [some .null, v1, v2, v3] (.null :: st) h Q := PW_step rfl rfl rfl rfl
theorem u_119_10 : PW B X 119 10 lv (.ref a :: st) h Q ↔ pm_O (pm_gf (pm_at B h a) 10 30) (fun v => PW B X 119 13 lv (v :: st) h Q) := PW_getf rfl rfl
theorem u_119_13 : PW B X 119 13 lv (st) h Q ↔ PW B X 119 16 lv (.int 168 :: st) h Q := PW_step rfl rfl rfl rfl
theorem u_119_16 : PW B X 119 16 [v0, some (.int x), v2, v3] (st) h Q ↔ PW B X 119 17 [v0, some (.int x), v2, v3] (.int x :: st) h Q := PW_step rfl rfl rfl rfl
theorem u_119_17 : PW B X 119 17 lv (.int y :: .int x :: st) h Q ↔ PW B X 119 18 lv (.int (x * y) :: st) h Q := PW_step rfl rfl rfl rfl
theorem u_119_18 : PW B X 119 18 [v0, v1, v2, some (.int x)] (st) h Q ↔ PW B X 119 19 [v0, v1, v2, some (.int x)] (.int x :: st) h Q := PW_step rfl rfl rfl rfl
theorem u_119_19 : PW B X 119 19 lv (.int y :: .int x :: st) h Q ↔ PW B X 119 20 lv (.int (x + y) :: st) h Q := PW_step rfl rfl rfl rfl
theorem u_119_20 : PW B X 119 20 lv (.int x :: .ref a :: st) h Q ↔ pm_O (pm_ldi 0 (pm_at B h a) x) (fun v => PW B X 119 21 lv (v :: st) h Q) := PW_iald rfl rfl
theorem u_119_21 : PW B X 119 21 [some (.ref a), v1, v2, v3] (st) h Q ↔ PW B X 119 22 [some (.ref a), v1, v2, v3] (.ref a :: st) h Q := PW_step rfl rfl rfl rfl
theorem u_119_21n : PW B X 119 21 [some .null, v1, v2, v3] (st) h Q ↔ PW B X 119 22 [some .null, v1, v2, v3] (.null :: st) h Q := PW_step rfl rfl rfl rfl
theorem u_119_22 : PW B X 119 22 lv (.ref a :: st) h Q ↔ pm_O (pm_gf (pm_at B h a) 10 30) (fun v => PW B X 119 25 lv (v :: st) h Q) := PW_getf rfl rfl
theorem u_119_25 : PW B X 119 25 lv (st) h Q ↔ PW B X 119 28 lv (.int 168 :: st) h Q := PW_step rfl rfl rfl rfl
theorem u_119_28 : PW B X 119 28 [v0, v1, some (.int x), v3] (st) h Q ↔ PW B X 119 29 [v0, v1, some (.int x), v3] (.int x :: st) h Q := PW_step rfl rfl rfl rfl
theorem u_119_29 : PW B X 119 29 lv (.int y :: .int x :: st) h Q ↔ PW B X 119 30 lv (.int (x * y) :: st) h Q := PW_step rfl rfl rfl rfl
theorem u_119_30 : PW B X 119 30 [v0, v1, v2, some (.int x)] (st) h Q ↔ PW B X 119 31 [v0, v1, v2, some (.int x)] (.int x :: st) h Q := PW_step rfl rfl rfl rfl
theorem u_119_31 : PW B X 119 31 lv (.int y :: .int x :: st) h Q ↔ PW B X 119 32 lv (.int (x + y) :: st) h Q := PW_step rfl rfl rfl rfl
theorem u_119_32 : PW B X 119 32 lv (.int x :: .ref a :: st) h Q ↔ pm_O (pm_ldi 0 (pm_at B h a) x) (fun v => PW B X 119 33 lv (v :: st) h Q) := PW_iald rfl rfl
theorem u_119_33 : PW B X 119 33 lv (.int y :: .int x :: st) h Q ↔ (if y ≤ x then PW B X 119 66 lv (st) h Q else PW B X 119 36 lv (st) h Q) := PW_icmp rfl rfl pm_c_ge
theorem u_119_36 : PW B X 119 36 [some (.ref a), v1, v2, v3] (st) h Q ↔ PW B X 119 37 [some (.ref a), v1, v2, v3] (.ref a :: st) h Q := PW_step rfl rfl rfl rfl
theorem u_119_36n : PW B X 119 36 [some .null, v1, v2, v3] (st) h Q ↔ PW B X 119 37 [some .null, v1, v2, v3] (.null :: st) h Q := PW_step rfl rfl rfl rfl
theorem u_119_37 : PW B X 119 37 [v0, some (.int x), v2, v3] (st) h Q ↔ PW B X 119 38 [v0, some (.int x), v2, v3] (.int x :: st) h Q := PW_step rfl rfl rfl rfl
theorem u_119_38 : PW B X 119 38 [some (.ref a), v1, v2, v3] (st) h Q ↔ PW B X 119 39 [some (.ref a), v1, v2, v3] (.ref a :: st) h Q := PW_step rfl rfl rfl rfl
theorem u_119_38n : PW B X 119 38 [some .null, v1, v2, v3] (st) h Q ↔ PW B X 119 39 [some .null, v1, v2, v3] (.null :: st) h Q := PW_step rfl rfl rfl rfl
theorem u_119_39 : PW B X 119 39 lv (.ref a :: st) h Q ↔ pm_O (pm_gf (pm_at B h a) 10 26) (fun v => PW B X 119 42 lv (v :: st) h Q) := PW_getf rfl rfl
theorem u_119_42 : PW B X 119 42 [v0, v1, v2, some (.int x)] (st) h Q ↔ PW B X 119 43 [v0, v1, v2, some (.int x)] (.int x :: st) h Q := PW_step rfl rfl rfl rfl
theorem u_119_43 : PW B X 119 43 lv (.int x :: .ref a :: st) h Q ↔ pm_O (pm_ldi 0 (pm_at B h a) x) (fun v => PW B X 119 44 lv (v :: st) h Q) := PW_iald rfl rfl
theorem u_119_44 : PW B X 119 44 lv (.int q1 :: .int q0 :: .ref a :: st) h Q ↔ (pm_w st ≤ 8 ∧ pm_io B h a 10 = true ∧ PW B X 112 0 [some (.ref a), some (.int q0), some (.int q1), none, none, none, none, none] [] h (fun r h' => PW B X 119 47 lv (r.toList ++ st) h' Q)) := PW_cv (y := 112) (as := [.int q0, .int q1]) (rest := st) rfl rfl rfl rfl rfl ⟨Nat.le_of_ble_eq_true rfl, Nat.le_of_ble_eq_true rfl, Nat.le_of_ble_eq_true rfl⟩
theorem u_119_47 : PW B X 119 47 [some (.ref a), v1, v2, v3] (st) h Q ↔ PW B X 119 48 [some (.ref a), v1, v2, v3] (.ref a :: st) h Q := PW_step rfl rfl rfl rfl
theorem u_119_47n : PW B X 119 47 [some .null, v1, v2, v3] (st) h Q ↔ PW B X 119 48 [some .null, v1, v2, v3] (.null :: st) h Q := PW_step rfl rfl rfl rfl
theorem u_119_48 : PW B X 119 48 lv (.ref a :: st) h Q ↔ pm_O (pm_gf (pm_at B h a) 10 30) (fun v => PW B X 119 51 lv (v :: st) h Q) := PW_getf rfl rfl
theorem u_119_51 : PW B X 119 51 lv (st) h Q ↔ PW B X 119 54 lv (.int 168 :: st) h Q := PW_step rfl rfl rfl rfl
theorem u_119_54 : PW B X 119 54 [v0, some (.int x), v2, v3] (st) h Q ↔ PW B X 119 55 [v0, some (.int x), v2, v3] (.int x :: st) h Q := PW_step rfl rfl rfl rfl
theorem u_119_55 : PW B X 119 55 lv (.int y :: .int x :: st) h Q ↔ PW B X 119 56 lv (.int (x * y) :: st) h Q := PW_step rfl rfl rfl rfl
theorem u_119_56 : PW B X 119 56 [v0, v1, v2, some (.int x)] (st) h Q ↔ PW B X 119 57 [v0, v1, v2, some (.int x)] (.int x :: st) h Q := PW_step rfl rfl rfl rfl
theorem u_119_57 : PW B X 119 57 lv (.int y :: .int x :: st) h Q ↔ PW B X 119 58 lv (.int (x + y) :: st) h Q := PW_step rfl rfl rfl rfl
theorem u_119_58 : PW B X 119 58 lv (.int x :: .ref a :: st) h Q ↔ PW B X 119 59 lv (.int x :: .ref a :: .int x :: .ref a :: st) h Q := PW_step rfl rfl rfl rfl
theorem u_119_59 : PW B X 119 59 lv (.int x :: .ref a :: st) h Q ↔ pm_O (pm_ldi 0 (pm_at B h a) x) (fun v => PW B X 119 60 lv (v :: st) h Q) := PW_iald rfl rfl
theorem u_119_60 : PW B X 119 60 lv (st) h Q ↔ PW B X 119 61 lv (.int 1 :: st) h Q := PW_step rfl rfl rfl rfl
theorem u_119_61 : PW B X 119 61 lv (.int y :: .int x :: st) h Q ↔ PW B X 119 62 lv (.int (x + y) :: st) h Q := PW_step rfl rfl rfl rfl
theorem u_119_62 : PW B X 119 62 lv (.int y :: .int x :: .ref a :: st) h Q ↔ pm_O (pm_sti 0 (pm_at B h a) x y) (fun e => PW B X 119 63 lv (st) (pm_set B h a e) Q) := PW_iast rfl
theorem u_119_63 : PW B X 119 63 lv (st) h Q ↔ PW B X 119 9 lv (st) h Q := PW_step rfl rfl rfl rfl
theorem u_119_66 : PW B X 119 66 [some (.ref a), v1, v2, v3] (st) h Q ↔ PW B X 119 67 [some (.ref a), v1, v2, v3] (.ref a :: st) h Q := PW_step rfl rfl rfl rfl
theorem u_119_66n : PW B X 119 66 [some .null, v1, v2, v3] (st) h Q ↔ PW B X 119 67 [some .null, v1, v2, v3] (.null :: st) h Q := PW_step rfl rfl rfl rfl
theorem u_119_67 : PW B X 119 67 lv (.ref a :: st) h Q ↔ pm_O (pm_gf (pm_at B h a) 10 30) (fun v => PW B X 119 70 lv (v :: st) h Q) := PW_getf rfl rfl
theorem u_119_70 : PW B X 119 70 lv (st) h Q ↔ PW B X 119 73 lv (.int 168 :: st) h Q := PW_step rfl rfl rfl rfl
theorem u_119_73 : PW B X 119 73 [v0, v1, some (.int x), v3] (st) h Q ↔ PW B X 119 74 [v0, v1, some (.int x), v3] (.int x :: st) h Q := PW_step rfl rfl rfl rfl
theorem u_119_74 : PW B X 119 74 lv (.int y :: .int x :: st) h Q ↔ PW B X 119 75 lv (.int (x * y) :: st) h Q := PW_step rfl rfl rfl rfl
theorem u_119_75 : PW B X 119 75 [v0, v1, v2, some (.int x)] (st) h Q ↔ PW B X 119 76 [v0, v1, v2, some (.int x)] (.int x :: st) h Q := PW_step rfl rfl rfl rfl
theorem u_119_76 : PW B X 119 76 lv (.int y :: .int x :: st) h Q ↔ PW B X 119 77 lv (.int (x + y) :: st) h Q := PW_step rfl rfl rfl rfl
theorem u_119_77 : PW B X 119 77 lv (.int x :: .ref a :: st) h Q ↔ pm_O (pm_ldi 0 (pm_at B h a) x) (fun v => PW B X 119 78 lv (v :: st) h Q) := PW_iald rfl rfl
theorem u_119_78 : PW B X 119 78 [some (.ref a), v1, v2, v3] (st) h Q ↔ PW B X 119 79 [some (.ref a), v1, v2, v3] (.ref a :: st) h Q := PW_step rfl rfl rfl rfl
theorem u_119_78n : PW B X 119 78 [some .null, v1, v2, v3] (st) h Q ↔ PW B X 119 79 [some .null, v1, v2, v3] (.null :: st) h Q := PW_step rfl rfl rfl rfl
theorem u_119_79 : PW B X 119 79 lv (.ref a :: st) h Q ↔ pm_O (pm_gf (pm_at B h a) 10 30) (fun v => PW B X 119 82 lv (v :: st) h Q) := PW_getf rfl rfl
theorem u_119_82 : PW B X 119 82 lv (st) h Q ↔ PW B X 119 85 lv (.int 168 :: st) h Q := PW_step rfl rfl rfl rfl
theorem u_119_85 : PW B X 119 85 [v0, some (.int x), v2, v3] (st) h Q ↔ PW B X 119 86 [v0, some (.int x), v2, v3] (.int x :: st) h Q := PW_step rfl rfl rfl rfl
theorem u_119_86 : PW B X 119 86 lv (.int y :: .int x :: st) h Q ↔ PW B X 119 87 lv (.int (x * y) :: st) h Q := PW_step rfl rfl rfl rfl
theorem u_119_87 : PW B X 119 87 [v0, v1, v2, some (.int x)] (st) h Q ↔ PW B X 119 88 [v0, v1, v2, some (.int x)] (.int x :: st) h Q := PW_step rfl rfl rfl rfl
theorem u_119_88 : PW B X 119 88 lv (.int y :: .int x :: st) h Q ↔ PW B X 119 89 lv (.int (x + y) :: st) h Q := PW_step rfl rfl rfl rfl
theorem u_119_89 : PW B X 119 89 lv (.int x :: .ref a :: st) h Q ↔ pm_O (pm_ldi 0 (pm_at B h a) x) (fun v => PW B X 119 90 lv (v :: st) h Q) := PW_iald rfl rfl
theorem u_119_90 : PW B X 119 90 lv (.int y :: .int x :: st) h Q ↔ (if y ≤ x then PW B X 119 123 lv (st) h Q else PW B X 119 93 lv (st) h Q) := PW_icmp rfl rfl pm_c_ge
theorem u_119_93 : PW B X 119 93 [some (.ref a), v1, v2, v3] (st) h Q ↔ PW B X 119 94 [some (.ref a), v1, v2, v3] (.ref a :: st) h Q := PW_step rfl rfl rfl rfl
theorem u_119_93n : PW B X 119 93 [some .null, v1, v2, v3] (st) h Q ↔ PW B X 119 94 [some .null, v1, v2, v3] (.null :: st) h Q := PW_step rfl rfl rfl rfl
theorem u_119_94 : PW B X 119 94 [v0, v1, some (.int x), v3] (st) h Q ↔ PW B X 119 95 [v0, v1, some (.int x), v3] (.int x :: st) h Q := PW_step rfl rfl rfl rfl
theorem u_119_95 : PW B X 119 95 [some (.ref a), v1, v2, v3] (st) h Q ↔ PW B X 119 96 [some (.ref a), v1, v2, v3] (.ref a :: st) h Q := PW_step rfl rfl rfl rfl
theorem u_119_95n : PW B X 119 95 [some .null, v1, v2, v3] (st) h Q ↔ PW B X 119 96 [some .null, v1, v2, v3] (.null :: st) h Q := PW_step rfl rfl rfl rfl
theorem u_119_96 : PW B X 119 96 lv (.ref a :: st) h Q ↔ pm_O (pm_gf (pm_at B h a) 10 26) (fun v => PW B X 119 99 lv (v :: st) h Q) := PW_getf rfl rfl
theorem u_119_99 : PW B X 119 99 [v0, v1, v2, some (.int x)] (st) h Q ↔ PW B X 119 100 [v0, v1, v2, some (.int x)] (.int x :: st) h Q := PW_step rfl rfl rfl rfl
theorem u_119_100 : PW B X 119 100 lv (.int x :: .ref a :: st) h Q ↔ pm_O (pm_ldi 0 (pm_at B h a) x) (fun v => PW B X 119 101 lv (v :: st) h Q) := PW_iald rfl rfl
theorem u_119_101 : PW B X 119 101 lv (.int q1 :: .int q0 :: .ref a :: st) h Q ↔ (pm_w st ≤ 8 ∧ pm_io B h a 10 = true ∧ PW B X 112 0 [some (.ref a), some (.int q0), some (.int q1), none, none, none, none, none] [] h (fun r h' => PW B X 119 104 lv (r.toList ++ st) h' Q)) := PW_cv (y := 112) (as := [.int q0, .int q1]) (rest := st) rfl rfl rfl rfl rfl ⟨Nat.le_of_ble_eq_true rfl, Nat.le_of_ble_eq_true rfl, Nat.le_of_ble_eq_true rfl⟩
theorem u_119_104 : PW B X 119 104 [some (.ref a), v1, v2, v3] (st) h Q ↔ PW B X 119 105 [some (.ref a), v1, v2, v3] (.ref a :: st) h Q := PW_step rfl rfl rfl rfl
theorem u_119_104n : PW B X 119 104 [some .null, v1, v2, v3] (st) h Q ↔ PW B X 119 105 [some .null, v1, v2, v3] (.null :: st) h Q := PW_step rfl rfl rfl rfl
theorem u_119_105 : PW B X 119 105 lv (.ref a :: st) h Q ↔ pm_O (pm_gf (pm_at B h a) 10 30) (fun v => PW B X 119 108 lv (v :: st) h Q) := PW_getf rfl rfl
theorem u_119_108 : PW B X 119 108 lv (st) h Q ↔ PW B X 119 111 lv (.int 168 :: st) h Q := PW_step rfl rfl rfl rfl
theorem u_119_111 : PW B X 119 111 [v0, v1, some (.int x), v3] (st) h Q ↔ PW B X 119 112 [v0, v1, some (.int x), v3] (.int x :: st) h Q := PW_step rfl rfl rfl rfl
theorem u_119_112 : PW B X 119 112 lv (.int y :: .int x :: st) h Q ↔ PW B X 119 113 lv (.int (x * y) :: st) h Q := PW_step rfl rfl rfl rfl
theorem u_119_113 : PW B X 119 113 [v0, v1, v2, some (.int x)] (st) h Q ↔ PW B X 119 114 [v0, v1, v2, some (.int x)] (.int x :: st) h Q := PW_step rfl rfl rfl rfl
theorem u_119_114 : PW B X 119 114 lv (.int y :: .int x :: st) h Q ↔ PW B X 119 115 lv (.int (x + y) :: st) h Q := PW_step rfl rfl rfl rfl
theorem u_119_115 : PW B X 119 115 lv (.int x :: .ref a :: st) h Q ↔ PW B X 119 116 lv (.int x :: .ref a :: .int x :: .ref a :: st) h Q := PW_step rfl rfl rfl rfl
theorem u_119_116 : PW B X 119 116 lv (.int x :: .ref a :: st) h Q ↔ pm_O (pm_ldi 0 (pm_at B h a) x) (fun v => PW B X 119 117 lv (v :: st) h Q) := PW_iald rfl rfl
theorem u_119_117 : PW B X 119 117 lv (st) h Q ↔ PW B X 119 118 lv (.int 1 :: st) h Q := PW_step rfl rfl rfl rfl
theorem u_119_118 : PW B X 119 118 lv (.int y :: .int x :: st) h Q ↔ PW B X 119 119 lv (.int (x + y) :: st) h Q := PW_step rfl rfl rfl rfl
theorem u_119_119 : PW B X 119 119 lv (.int y :: .int x :: .ref a :: st) h Q ↔ pm_O (pm_sti 0 (pm_at B h a) x y) (fun e => PW B X 119 120 lv (st) (pm_set B h a e) Q) := PW_iast rfl
theorem u_119_120 : PW B X 119 120 lv (st) h Q ↔ PW B X 119 66 lv (st) h Q := PW_step rfl rfl rfl rfl
theorem u_119_123 : PW B X 119 123 [v0, v1, v2, some (.int x)] (st) h Q ↔ PW B X 119 126 [v0, v1, pm_c v2, some (.int (x + 1))] (st) h Q := PW_step rfl rfl rfl rfl
theorem u_119_126 : PW B X 119 126 lv (st) h Q ↔ PW B X 119 2 lv (st) h Q := PW_step rfl rfl rfl rfl
theorem u_119_129 : PW B X 119 129 lv ([]) h Q ↔ Q none h := PW_ret rfl rfl
-- 120 Ref_compareSizes
theorem u_120_0 : PW B X 120 0 [some (.ref a), v1, v2, v3] (st) h Q ↔ PW B X 120 1 [some (.ref a), v1, v2, v3] (.ref a :: st) h Q := PW_step rfl rfl rfl rfl
theorem u_120_0n : PW B X 120 0 [some .null, v1, v2, v3] (st) h Q ↔ PW B X 120 1 [some .null, v1, v2, v3] (.null :: st) h Q := PW_step rfl rfl rfl rfl
theorem u_120_1 : PW B X 120 1 lv (.ref a :: st) h Q ↔ pm_O (pm_gf (pm_at B h a) 10 28) (fun v => PW B X 120 4 lv (v :: st) h Q) := PW_getf rfl rfl
theorem u_120_4 : PW B X 120 4 [v0, some (.int x), v2, v3] (st) h Q ↔ PW B X 120 5 [v0, some (.int x), v2, v3] (.int x :: st) h Q := PW_step rfl rfl rfl rfl
theorem u_120_5 : PW B X 120 5 lv (.int x :: .ref a :: st) h Q ↔ pm_O (pm_ldi 0 (pm_at B h a) x) (fun v => PW B X 120 6 lv (v :: st) h Q) := PW_iald rfl rfl
theorem u_120_6 : PW B X 120 6 [some (.ref a), v1, v2, v3] (st) h Q ↔ PW B X 120 7 [some (.ref a), v1, v2, v3] (.ref a :: st) h Q := PW_step rfl rfl rfl rfl
theorem u_120_6n : PW B X 120 6 [some .null, v1, v2, v3] (st) h Q ↔ PW B X 120 7 [some .null, v1, v2, v3] (.null :: st) h Q := PW_step rfl rfl rfl rfl
theorem u_120_7 : PW B X 120 7 lv (.ref a :: st) h Q ↔ pm_O (pm_gf (pm_at B h a) 10 28) (fun v => PW B X 120 10 lv (v :: st) h Q) := PW_getf rfl rfl
theorem u_120_10 : PW B X 120 10 [v0, v1, some (.int x), v3] (st) h Q ↔ PW B X 120 11 [v0, v1, some (.int x), v3] (.int x :: st) h Q := PW_step rfl rfl rfl rfl
theorem u_120_11 : PW B X 120 11 lv (.int x :: .ref a :: st) h Q ↔ pm_O (pm_ldi 0 (pm_at B h a) x) (fun v => PW B X 120 12 lv (v :: st) h Q) := PW_iald rfl rfl
theorem u_120_12 : PW B X 120 12 lv (.int y :: .int x :: st) h Q ↔ (if x = y then PW B X 120 36 lv (st) h Q else PW B X 120 15 lv (st) h Q) := PW_icmp rfl rfl pm_c_eq
theorem u_120_15 : PW B X 120 15 [some (.ref a), v1, v2, v3] (st) h Q ↔ PW B X 120 16 [some (.ref a), v1, v2, v3] (.ref a :: st) h Q := PW_step rfl rfl rfl rfl
theorem u_120_15n : PW B X 120 15 [some .null, v1, v2, v3] (st) h Q ↔ PW B X 120 16 [some .null, v1, v2, v3] (.null :: st) h Q := PW_step rfl rfl rfl rfl
theorem u_120_16 : PW B X 120 16 lv (.ref a :: st) h Q ↔ pm_O (pm_gf (pm_at B h a) 10 28) (fun v => PW B X 120 19 lv (v :: st) h Q) := PW_getf rfl rfl
theorem u_120_19 : PW B X 120 19 [v0, some (.int x), v2, v3] (st) h Q ↔ PW B X 120 20 [v0, some (.int x), v2, v3] (.int x :: st) h Q := PW_step rfl rfl rfl rfl
theorem u_120_20 : PW B X 120 20 lv (.int x :: .ref a :: st) h Q ↔ pm_O (pm_ldi 0 (pm_at B h a) x) (fun v => PW B X 120 21 lv (v :: st) h Q) := PW_iald rfl rfl
theorem u_120_21 : PW B X 120 21 [some (.ref a), v1, v2, v3] (st) h Q ↔ PW B X 120 22 [some (.ref a), v1, v2, v3] (.ref a :: st) h Q := PW_step rfl rfl rfl rfl
theorem u_120_21n : PW B X 120 21 [some .null, v1, v2, v3] (st) h Q ↔ PW B X 120 22 [some .null, v1, v2, v3] (.null :: st) h Q := PW_step rfl rfl rfl rfl
theorem u_120_22 : PW B X 120 22 lv (.ref a :: st) h Q ↔ pm_O (pm_gf (pm_at B h a) 10 28) (fun v => PW B X 120 25 lv (v :: st) h Q) := PW_getf rfl rfl
theorem u_120_25 : PW B X 120 25 [v0, v1, some (.int x), v3] (st) h Q ↔ PW B X 120 26 [v0, v1, some (.int x), v3] (.int x :: st) h Q := PW_step rfl rfl rfl rfl
theorem u_120_26 : PW B X 120 26 lv (.int x :: .ref a :: st) h Q ↔ pm_O (pm_ldi 0 (pm_at B h a) x) (fun v => PW B X 120 27 lv (v :: st) h Q) := PW_iald rfl rfl
theorem u_120_27 : PW B X 120 27 lv (.int y :: .int x :: st) h Q ↔ (if y ≤ x then PW B X 120 34 lv (st) h Q else PW B X 120 30 lv (st) h Q) := PW_icmp rfl rfl pm_c_ge
theorem u_120_30 : PW B X 120 30 lv (st) h Q ↔ PW B X 120 31 lv (.int (-1) :: st) h Q := PW_step rfl rfl rfl rfl
theorem u_120_31 : PW B X 120 31 lv (st) h Q ↔ PW B X 120 35 lv (st) h Q := PW_step rfl rfl rfl rfl
theorem u_120_34 : PW B X 120 34 lv (st) h Q ↔ PW B X 120 35 lv (.int 1 :: st) h Q := PW_step rfl rfl rfl rfl
theorem u_120_35 : PW B X 120 35 lv ([.int x]) h Q ↔ Q (some (.int x)) h := PW_ret rfl rfl
theorem u_120_36 : PW B X 120 36 [some (.ref a), v1, v2, v3] (st) h Q ↔ PW B X 120 37 [some (.ref a), v1, v2, v3] (.ref a :: st) h Q := PW_step rfl rfl rfl rfl
theorem u_120_36n : PW B X 120 36 [some .null, v1, v2, v3] (st) h Q ↔ PW B X 120 37 [some .null, v1, v2, v3] (.null :: st) h Q := PW_step rfl rfl rfl rfl
theorem u_120_37 : PW B X 120 37 lv (.ref a :: st) h Q ↔ pm_O (pm_gf (pm_at B h a) 10 28) (fun v => PW B X 120 40 lv (v :: st) h Q) := PW_getf rfl rfl
theorem u_120_40 : PW B X 120 40 [v0, some (.int x), v2, v3] (st) h Q ↔ PW B X 120 41 [v0, some (.int x), v2, v3] (.int x :: st) h Q := PW_step rfl rfl rfl rfl
theorem u_120_41 : PW B X 120 41 lv (.int x :: .ref a :: st) h Q ↔ pm_O (pm_ldi 0 (pm_at B h a) x) (fun v => PW B X 120 42 lv (v :: st) h Q) := PW_iald rfl rfl
theorem u_120_42 : PW B X 120 42 lv (st) h Q ↔ PW B X 120 43 lv (.int 1 :: st) h Q := PW_step rfl rfl rfl rfl
theorem u_120_43 : PW B X 120 43 lv (.int y :: .int x :: st) h Q ↔ PW B X 120 44 lv (.int (x - y) :: st) h Q := PW_step rfl rfl rfl rfl
theorem u_120_44 : PW B X 120 44 [v0, v1, v2, v3] (.int x :: st) h Q ↔ PW B X 120 45 [v0, v1, pm_c v2, some (.int x)] (st) h Q := PW_step rfl rfl rfl rfl
theorem u_120_45 : PW B X 120 45 [v0, v1, v2, some (.int x)] (st) h Q ↔ PW B X 120 46 [v0, v1, v2, some (.int x)] (.int x :: st) h Q := PW_step rfl rfl rfl rfl
theorem u_120_46 : PW B X 120 46 lv (.int x :: st) h Q ↔ (if x < 0 then PW B X 120 113 lv (st) h Q else PW B X 120 49 lv (st) h Q) := PW_if rfl rfl pm_c_lt
theorem u_120_49 : PW B X 120 49 [some (.ref a), v1, v2, v3] (st) h Q ↔ PW B X 120 50 [some (.ref a), v1, v2, v3] (.ref a :: st) h Q := PW_step rfl rfl rfl rfl
theorem u_120_49n : PW B X 120 49 [some .null, v1, v2, v3] (st) h Q ↔ PW B X 120 50 [some .null, v1, v2, v3] (.null :: st) h Q := PW_step rfl rfl rfl rfl
theorem u_120_50 : PW B X 120 50 lv (.ref a :: st) h Q ↔ pm_O (pm_gf (pm_at B h a) 10 27) (fun v => PW B X 120 53 lv (v :: st) h Q) := PW_getf rfl rfl
theorem u_120_53 : PW B X 120 53 lv (st) h Q ↔ PW B X 120 55 lv (.int 40 :: st) h Q := PW_step rfl rfl rfl rfl
theorem u_120_55 : PW B X 120 55 [v0, some (.int x), v2, v3] (st) h Q ↔ PW B X 120 56 [v0, some (.int x), v2, v3] (.int x :: st) h Q := PW_step rfl rfl rfl rfl
theorem u_120_56 : PW B X 120 56 lv (.int y :: .int x :: st) h Q ↔ PW B X 120 57 lv (.int (x * y) :: st) h Q := PW_step rfl rfl rfl rfl
theorem u_120_57 : PW B X 120 57 [v0, v1, v2, some (.int x)] (st) h Q ↔ PW B X 120 58 [v0, v1, v2, some (.int x)] (.int x :: st) h Q := PW_step rfl rfl rfl rfl
theorem u_120_58 : PW B X 120 58 lv (.int y :: .int x :: st) h Q ↔ PW B X 120 59 lv (.int (x + y) :: st) h Q := PW_step rfl rfl rfl rfl
theorem u_120_59 : PW B X 120 59 lv (.int x :: .ref a :: st) h Q ↔ pm_O (pm_ldl (pm_at B h a) x) (fun v => PW B X 120 60 lv (v :: st) h Q) := PW_lald rfl
theorem u_120_60 : PW B X 120 60 [some (.ref a), v1, v2, v3] (st) h Q ↔ PW B X 120 61 [some (.ref a), v1, v2, v3] (.ref a :: st) h Q := PW_step rfl rfl rfl rfl
theorem u_120_60n : PW B X 120 60 [some .null, v1, v2, v3] (st) h Q ↔ PW B X 120 61 [some .null, v1, v2, v3] (.null :: st) h Q := PW_step rfl rfl rfl rfl
theorem u_120_61 : PW B X 120 61 lv (.ref a :: st) h Q ↔ pm_O (pm_gf (pm_at B h a) 10 27) (fun v => PW B X 120 64 lv (v :: st) h Q) := PW_getf rfl rfl
theorem u_120_64 : PW B X 120 64 lv (st) h Q ↔ PW B X 120 66 lv (.int 40 :: st) h Q := PW_step rfl rfl rfl rfl
theorem u_120_66 : PW B X 120 66 [v0, v1, some (.int x), v3] (st) h Q ↔ PW B X 120 67 [v0, v1, some (.int x), v3] (.int x :: st) h Q := PW_step rfl rfl rfl rfl
theorem u_120_67 : PW B X 120 67 lv (.int y :: .int x :: st) h Q ↔ PW B X 120 68 lv (.int (x * y) :: st) h Q := PW_step rfl rfl rfl rfl
theorem u_120_68 : PW B X 120 68 [v0, v1, v2, some (.int x)] (st) h Q ↔ PW B X 120 69 [v0, v1, v2, some (.int x)] (.int x :: st) h Q := PW_step rfl rfl rfl rfl
theorem u_120_69 : PW B X 120 69 lv (.int y :: .int x :: st) h Q ↔ PW B X 120 70 lv (.int (x + y) :: st) h Q := PW_step rfl rfl rfl rfl
theorem u_120_70 : PW B X 120 70 lv (.int x :: .ref a :: st) h Q ↔ pm_O (pm_ldl (pm_at B h a) x) (fun v => PW B X 120 71 lv (v :: st) h Q) := PW_lald rfl
theorem u_120_71 : PW B X 120 71 lv (.long w :: .long z :: st) h Q ↔ PW B X 120 72 lv (.int (lg_cmp z w) :: st) h Q := PW_step rfl rfl rfl rfl
theorem u_120_72 : PW B X 120 72 lv (.int x :: st) h Q ↔ (if x = 0 then PW B X 120 107 lv (st) h Q else PW B X 120 75 lv (st) h Q) := PW_if rfl rfl pm_c_eq
theorem u_120_75 : PW B X 120 75 [some (.ref a), v1, v2, v3] (st) h Q ↔ PW B X 120 76 [some (.ref a), v1, v2, v3] (.ref a :: st) h Q := PW_step rfl rfl rfl rfl
theorem u_120_75n : PW B X 120 75 [some .null, v1, v2, v3] (st) h Q ↔ PW B X 120 76 [some .null, v1, v2, v3] (.null :: st) h Q := PW_step rfl rfl rfl rfl
theorem u_120_76 : PW B X 120 76 lv (.ref a :: st) h Q ↔ pm_O (pm_gf (pm_at B h a) 10 27) (fun v => PW B X 120 79 lv (v :: st) h Q) := PW_getf rfl rfl
theorem u_120_79 : PW B X 120 79 lv (st) h Q ↔ PW B X 120 81 lv (.int 40 :: st) h Q := PW_step rfl rfl rfl rfl
theorem u_120_81 : PW B X 120 81 [v0, some (.int x), v2, v3] (st) h Q ↔ PW B X 120 82 [v0, some (.int x), v2, v3] (.int x :: st) h Q := PW_step rfl rfl rfl rfl
theorem u_120_82 : PW B X 120 82 lv (.int y :: .int x :: st) h Q ↔ PW B X 120 83 lv (.int (x * y) :: st) h Q := PW_step rfl rfl rfl rfl
theorem u_120_83 : PW B X 120 83 [v0, v1, v2, some (.int x)] (st) h Q ↔ PW B X 120 84 [v0, v1, v2, some (.int x)] (.int x :: st) h Q := PW_step rfl rfl rfl rfl
theorem u_120_84 : PW B X 120 84 lv (.int y :: .int x :: st) h Q ↔ PW B X 120 85 lv (.int (x + y) :: st) h Q := PW_step rfl rfl rfl rfl
theorem u_120_85 : PW B X 120 85 lv (.int x :: .ref a :: st) h Q ↔ pm_O (pm_ldl (pm_at B h a) x) (fun v => PW B X 120 86 lv (v :: st) h Q) := PW_lald rfl
theorem u_120_86 : PW B X 120 86 [some (.ref a), v1, v2, v3] (st) h Q ↔ PW B X 120 87 [some (.ref a), v1, v2, v3] (.ref a :: st) h Q := PW_step rfl rfl rfl rfl
theorem u_120_86n : PW B X 120 86 [some .null, v1, v2, v3] (st) h Q ↔ PW B X 120 87 [some .null, v1, v2, v3] (.null :: st) h Q := PW_step rfl rfl rfl rfl
theorem u_120_87 : PW B X 120 87 lv (.ref a :: st) h Q ↔ pm_O (pm_gf (pm_at B h a) 10 27) (fun v => PW B X 120 90 lv (v :: st) h Q) := PW_getf rfl rfl
theorem u_120_90 : PW B X 120 90 lv (st) h Q ↔ PW B X 120 92 lv (.int 40 :: st) h Q := PW_step rfl rfl rfl rfl
theorem u_120_92 : PW B X 120 92 [v0, v1, some (.int x), v3] (st) h Q ↔ PW B X 120 93 [v0, v1, some (.int x), v3] (.int x :: st) h Q := PW_step rfl rfl rfl rfl
theorem u_120_93 : PW B X 120 93 lv (.int y :: .int x :: st) h Q ↔ PW B X 120 94 lv (.int (x * y) :: st) h Q := PW_step rfl rfl rfl rfl
theorem u_120_94 : PW B X 120 94 [v0, v1, v2, some (.int x)] (st) h Q ↔ PW B X 120 95 [v0, v1, v2, some (.int x)] (.int x :: st) h Q := PW_step rfl rfl rfl rfl
theorem u_120_95 : PW B X 120 95 lv (.int y :: .int x :: st) h Q ↔ PW B X 120 96 lv (.int (x + y) :: st) h Q := PW_step rfl rfl rfl rfl
theorem u_120_96 : PW B X 120 96 lv (.int x :: .ref a :: st) h Q ↔ pm_O (pm_ldl (pm_at B h a) x) (fun v => PW B X 120 97 lv (v :: st) h Q) := PW_lald rfl
theorem u_120_97 : PW B X 120 97 lv (.long w :: .long z :: st) h Q ↔ PW B X 120 98 lv (.int (lg_cmp z w) :: st) h Q := PW_step rfl rfl rfl rfl
theorem u_120_98 : PW B X 120 98 lv (.int x :: st) h Q ↔ (if 0 ≤ x then PW B X 120 105 lv (st) h Q else PW B X 120 101 lv (st) h Q) := PW_if rfl rfl pm_c_ge
theorem u_120_101 : PW B X 120 101 lv (st) h Q ↔ PW B X 120 102 lv (.int (-1) :: st) h Q := PW_step rfl rfl rfl rfl
theorem u_120_102 : PW B X 120 102 lv (st) h Q ↔ PW B X 120 106 lv (st) h Q := PW_step rfl rfl rfl rfl
theorem u_120_105 : PW B X 120 105 lv (st) h Q ↔ PW B X 120 106 lv (.int 1 :: st) h Q := PW_step rfl rfl rfl rfl
theorem u_120_106 : PW B X 120 106 lv ([.int x]) h Q ↔ Q (some (.int x)) h := PW_ret rfl rfl
theorem u_120_107 : PW B X 120 107 [v0, v1, v2, some (.int x)] (st) h Q ↔ PW B X 120 110 [v0, v1, pm_c v2, some (.int (x + (-1)))] (st) h Q := PW_step rfl rfl rfl rfl
theorem u_120_110 : PW B X 120 110 lv (st) h Q ↔ PW B X 120 45 lv (st) h Q := PW_step rfl rfl rfl rfl
theorem u_120_113 : PW B X 120 113 lv (st) h Q ↔ PW B X 120 114 lv (.int 0 :: st) h Q := PW_step rfl rfl rfl rfl
theorem u_120_114 : PW B X 120 114 lv ([.int x]) h Q ↔ Q (some (.int x)) h := PW_ret rfl rfl
-- 121 Ref_compare
theorem u_121_0 : PW B X 121 0 [some (.ref a), v1, v2] (st) h Q ↔ PW B X 121 1 [some (.ref a), v1, v2] (.ref a :: st) h Q := PW_step rfl rfl rfl rfl
theorem u_121_0n : PW B X 121 0 [some .null, v1, v2] (st) h Q ↔ PW B X 121 1 [some .null, v1, v2] (.null :: st) h Q := PW_step rfl rfl rfl rfl
theorem u_121_1 : PW B X 121 1 lv (.ref a :: st) h Q ↔ pm_O (pm_gf (pm_at B h a) 10 29) (fun v => PW B X 121 4 lv (v :: st) h Q) := PW_getf rfl rfl
theorem u_121_4 : PW B X 121 4 [v0, some (.int x), v2] (st) h Q ↔ PW B X 121 5 [v0, some (.int x), v2] (.int x :: st) h Q := PW_step rfl rfl rfl rfl
theorem u_121_5 : PW B X 121 5 lv (.int x :: .ref a :: st) h Q ↔ pm_O (pm_ldi 0 (pm_at B h a) x) (fun v => PW B X 121 6 lv (v :: st) h Q) := PW_iald rfl rfl
theorem u_121_6 : PW B X 121 6 [some (.ref a), v1, v2] (st) h Q ↔ PW B X 121 7 [some (.ref a), v1, v2] (.ref a :: st) h Q := PW_step rfl rfl rfl rfl
theorem u_121_6n : PW B X 121 6 [some .null, v1, v2] (st) h Q ↔ PW B X 121 7 [some .null, v1, v2] (.null :: st) h Q := PW_step rfl rfl rfl rfl
theorem u_121_7 : PW B X 121 7 lv (.ref a :: st) h Q ↔ pm_O (pm_gf (pm_at B h a) 10 29) (fun v => PW B X 121 10 lv (v :: st) h Q) := PW_getf rfl rfl
theorem u_121_10 : PW B X 121 10 [v0, v1, some (.int x)] (st) h Q ↔ PW B X 121 11 [v0, v1, some (.int x)] (.int x :: st) h Q := PW_step rfl rfl rfl rfl
theorem u_121_11 : PW B X 121 11 lv (.int x :: .ref a :: st) h Q ↔ pm_O (pm_ldi 0 (pm_at B h a) x) (fun v => PW B X 121 12 lv (v :: st) h Q) := PW_iald rfl rfl
theorem u_121_12 : PW B X 121 12 lv (.int y :: .int x :: st) h Q ↔ (if x = y then PW B X 121 36 lv (st) h Q else PW B X 121 15 lv (st) h Q) := PW_icmp rfl rfl pm_c_eq
theorem u_121_15 : PW B X 121 15 [some (.ref a), v1, v2] (st) h Q ↔ PW B X 121 16 [some (.ref a), v1, v2] (.ref a :: st) h Q := PW_step rfl rfl rfl rfl
theorem u_121_15n : PW B X 121 15 [some .null, v1, v2] (st) h Q ↔ PW B X 121 16 [some .null, v1, v2] (.null :: st) h Q := PW_step rfl rfl rfl rfl
theorem u_121_16 : PW B X 121 16 lv (.ref a :: st) h Q ↔ pm_O (pm_gf (pm_at B h a) 10 29) (fun v => PW B X 121 19 lv (v :: st) h Q) := PW_getf rfl rfl
theorem u_121_19 : PW B X 121 19 [v0, some (.int x), v2] (st) h Q ↔ PW B X 121 20 [v0, some (.int x), v2] (.int x :: st) h Q := PW_step rfl rfl rfl rfl
theorem u_121_20 : PW B X 121 20 lv (.int x :: .ref a :: st) h Q ↔ pm_O (pm_ldi 0 (pm_at B h a) x) (fun v => PW B X 121 21 lv (v :: st) h Q) := PW_iald rfl rfl
theorem u_121_21 : PW B X 121 21 [some (.ref a), v1, v2] (st) h Q ↔ PW B X 121 22 [some (.ref a), v1, v2] (.ref a :: st) h Q := PW_step rfl rfl rfl rfl
theorem u_121_21n : PW B X 121 21 [some .null, v1, v2] (st) h Q ↔ PW B X 121 22 [some .null, v1, v2] (.null :: st) h Q := PW_step rfl rfl rfl rfl
theorem u_121_22 : PW B X 121 22 lv (.ref a :: st) h Q ↔ pm_O (pm_gf (pm_at B h a) 10 29) (fun v => PW B X 121 25 lv (v :: st) h Q) := PW_getf rfl rfl
theorem u_121_25 : PW B X 121 25 [v0, v1, some (.int x)] (st) h Q ↔ PW B X 121 26 [v0, v1, some (.int x)] (.int x :: st) h Q := PW_step rfl rfl rfl rfl
theorem u_121_26 : PW B X 121 26 lv (.int x :: .ref a :: st) h Q ↔ pm_O (pm_ldi 0 (pm_at B h a) x) (fun v => PW B X 121 27 lv (v :: st) h Q) := PW_iald rfl rfl
theorem u_121_27 : PW B X 121 27 lv (.int y :: .int x :: st) h Q ↔ (if y ≤ x then PW B X 121 34 lv (st) h Q else PW B X 121 30 lv (st) h Q) := PW_icmp rfl rfl pm_c_ge
theorem u_121_30 : PW B X 121 30 lv (st) h Q ↔ PW B X 121 31 lv (.int (-1) :: st) h Q := PW_step rfl rfl rfl rfl
theorem u_121_31 : PW B X 121 31 lv (st) h Q ↔ PW B X 121 35 lv (st) h Q := PW_step rfl rfl rfl rfl
theorem u_121_34 : PW B X 121 34 lv (st) h Q ↔ PW B X 121 35 lv (.int 1 :: st) h Q := PW_step rfl rfl rfl rfl
theorem u_121_35 : PW B X 121 35 lv ([.int x]) h Q ↔ Q (some (.int x)) h := PW_ret rfl rfl
theorem u_121_36 : PW B X 121 36 [some (.ref a), v1, v2] (st) h Q ↔ PW B X 121 37 [some (.ref a), v1, v2] (.ref a :: st) h Q := PW_step rfl rfl rfl rfl
theorem u_121_36n : PW B X 121 36 [some .null, v1, v2] (st) h Q ↔ PW B X 121 37 [some .null, v1, v2] (.null :: st) h Q := PW_step rfl rfl rfl rfl
theorem u_121_37 : PW B X 121 37 [v0, some (.int x), v2] (st) h Q ↔ PW B X 121 38 [v0, some (.int x), v2] (.int x :: st) h Q := PW_step rfl rfl rfl rfl
theorem u_121_38 : PW B X 121 38 lv (st) h Q ↔ PW B X 121 39 lv (.int 4 :: st) h Q := PW_step rfl rfl rfl rfl
theorem u_121_39 : PW B X 121 39 lv (.int q1 :: .int q0 :: .ref a :: st) h Q ↔ (pm_w st ≤ 8 ∧ pm_io B h a 10 = true ∧ PW B X 118 0 [some (.ref a), some (.int q0), some (.int q1), none] [] h (fun r h' => PW B X 121 42 lv (r.toList ++ st) h' Q)) := PW_cv (y := 118) (as := [.int q0, .int q1]) (rest := st) rfl rfl rfl rfl rfl ⟨Nat.le_of_ble_eq_true rfl, Nat.le_of_ble_eq_true rfl, Nat.le_of_ble_eq_true rfl⟩
theorem u_121_42 : PW B X 121 42 [some (.ref a), v1, v2] (st) h Q ↔ PW B X 121 43 [some (.ref a), v1, v2] (.ref a :: st) h Q := PW_step rfl rfl rfl rfl
theorem u_121_42n : PW B X 121 42 [some .null, v1, v2] (st) h Q ↔ PW B X 121 43 [some .null, v1, v2] (.null :: st) h Q := PW_step rfl rfl rfl rfl
theorem u_121_43 : PW B X 121 43 [v0, v1, some (.int x)] (st) h Q ↔ PW B X 121 44 [v0, v1, some (.int x)] (.int x :: st) h Q := PW_step rfl rfl rfl rfl
theorem u_121_44 : PW B X 121 44 lv (st) h Q ↔ PW B X 121 45 lv (.int 5 :: st) h Q := PW_step rfl rfl rfl rfl
theorem u_121_45 : PW B X 121 45 lv (.int q1 :: .int q0 :: .ref a :: st) h Q ↔ (pm_w st ≤ 8 ∧ pm_io B h a 10 = true ∧ PW B X 118 0 [some (.ref a), some (.int q0), some (.int q1), none] [] h (fun r h' => PW B X 121 48 lv (r.toList ++ st) h' Q)) := PW_cv (y := 118) (as := [.int q0, .int q1]) (rest := st) rfl rfl rfl rfl rfl ⟨Nat.le_of_ble_eq_true rfl, Nat.le_of_ble_eq_true rfl, Nat.le_of_ble_eq_true rfl⟩
theorem u_121_48 : PW B X 121 48 [some (.ref a), v1, v2] (st) h Q ↔ PW B X 121 49 [some (.ref a), v1, v2] (.ref a :: st) h Q := PW_step rfl rfl rfl rfl
theorem u_121_48n : PW B X 121 48 [some .null, v1, v2] (st) h Q ↔ PW B X 121 49 [some .null, v1, v2] (.null :: st) h Q := PW_step rfl rfl rfl rfl
theorem u_121_49 : PW B X 121 49 lv (st) h Q ↔ PW B X 121 50 lv (.int 4 :: st) h Q := PW_step rfl rfl rfl rfl
theorem u_121_50 : PW B X 121 50 lv (st) h Q ↔ PW B X 121 51 lv (.int 5 :: st) h Q := PW_step rfl rfl rfl rfl
theorem u_121_51 : PW B X 121 51 lv (.int q1 :: .int q0 :: .ref a :: st) h Q ↔ (pm_w st ≤ 8 ∧ pm_io B h a 10 = true ∧ PW B X 119 0 [some (.ref a), some (.int q0), some (.int q1), none] [] h (fun r h' => PW B X 121 54 lv (r.toList ++ st) h' Q)) := PW_cv (y := 119) (as := [.int q0, .int q1]) (rest := st) rfl rfl rfl rfl rfl ⟨Nat.le_of_ble_eq_true rfl, Nat.le_of_ble_eq_true rfl, Nat.le_of_ble_eq_true rfl⟩
theorem u_121_54 : PW B X 121 54 [some (.ref a), v1, v2] (st) h Q ↔ PW B X 121 55 [some (.ref a), v1, v2] (.ref a :: st) h Q := PW_step rfl rfl rfl rfl
theorem u_121_54n : PW B X 121 54 [some .null, v1, v2] (st) h Q ↔ PW B X 121 55 [some .null, v1, v2] (.null :: st) h Q := PW_step rfl rfl rfl rfl
theorem u_121_55 : PW B X 121 55 lv (.ref a :: st) h Q ↔ pm_O (pm_gf (pm_at B h a) 10 29) (fun v => PW B X 121 58 lv (v :: st) h Q) := PW_getf rfl rfl
theorem u_121_58 : PW B X 121 58 [v0, some (.int x), v2] (st) h Q ↔ PW B X 121 59 [v0, some (.int x), v2] (.int x :: st) h Q := PW_step rfl rfl rfl rfl
theorem u_121_59 : PW B X 121 59 lv (.int x :: .ref a :: st) h Q ↔ pm_O (pm_ldi 0 (pm_at B h a) x) (fun v => PW B X 121 60 lv (v :: st) h Q) := PW_iald rfl rfl
theorem u_121_60 : PW B X 121 60 [some (.ref a), v1, v2] (st) h Q ↔ PW B X 121 61 [some (.ref a), v1, v2] (.ref a :: st) h Q := PW_step rfl rfl rfl rfl
theorem u_121_60n : PW B X 121 60 [some .null, v1, v2] (st) h Q ↔ PW B X 121 61 [some .null, v1, v2] (.null :: st) h Q := PW_step rfl rfl rfl rfl
theorem u_121_61 : PW B X 121 61 lv (st) h Q ↔ PW B X 121 62 lv (.int 4 :: st) h Q := PW_step rfl rfl rfl rfl
theorem u_121_62 : PW B X 121 62 lv (st) h Q ↔ PW B X 121 63 lv (.int 5 :: st) h Q := PW_step rfl rfl rfl rfl
theorem u_121_63 : PW B X 121 63 lv (.int q1 :: .int q0 :: .ref a :: st) h Q ↔ (pm_w st ≤ 8 ∧ pm_io B h a 10 = true ∧ PW B X 120 0 [some (.ref a), some (.int q0), some (.int q1), none] [] h (fun r h' => PW B X 121 66 lv (r.toList ++ st) h' Q)) := PW_cv (y := 120) (as := [.int q0, .int q1]) (rest := st) rfl rfl rfl rfl rfl ⟨Nat.le_of_ble_eq_true rfl, Nat.le_of_ble_eq_true rfl, Nat.le_of_ble_eq_true rfl⟩
theorem u_121_66 : PW B X 121 66 lv (.int y :: .int x :: st) h Q ↔ PW B X 121 67 lv (.int (x * y) :: st) h Q := PW_step rfl rfl rfl rfl
theorem u_121_67 : PW B X 121 67 lv ([.int x]) h Q ↔ Q (some (.int x)) h := PW_ret rfl rfl
-- 122 Ref_worst
theorem u_122_0 : PW B X 122 0 [some (.ref a)] (st) h Q ↔ PW B X 122 1 [some (.ref a)] (.ref a :: st) h Q := PW_step rfl rfl rfl rfl
theorem u_122_0n : PW B X 122 0 [some .null] (st) h Q ↔ PW B X 122 1 [some .null] (.null :: st) h Q := PW_step rfl rfl rfl rfl
theorem u_122_1 : PW B X 122 1 lv (st) h Q ↔ PW B X 122 2 lv (.int 0 :: st) h Q := PW_step rfl rfl rfl rfl
theorem u_122_2 : PW B X 122 2 lv (st) h Q ↔ PW B X 122 3 lv (.int 4 :: st) h Q := PW_step rfl rfl rfl rfl
theorem u_122_3 : PW B X 122 3 lv (.int q1 :: .int q0 :: .ref a :: st) h Q ↔ (pm_w st ≤ 8 ∧ pm_io B h a 10 = true ∧ PW B X 118 0 [some (.ref a), some (.int q0), some (.int q1), none] [] h (fun r h' => PW B X 122 6 lv (r.toList ++ st) h' Q)) := PW_cv (y := 118) (as := [.int q0, .int q1]) (rest := st) rfl rfl rfl rfl rfl ⟨Nat.le_of_ble_eq_true rfl, Nat.le_of_ble_eq_true rfl, Nat.le_of_ble_eq_true rfl⟩
theorem u_122_6 : PW B X 122 6 [some (.ref a)] (st) h Q ↔ PW B X 122 7 [some (.ref a)] (.ref a :: st) h Q := PW_step rfl rfl rfl rfl
theorem u_122_6n : PW B X 122 6 [some .null] (st) h Q ↔ PW B X 122 7 [some .null] (.null :: st) h Q := PW_step rfl rfl rfl rfl
theorem u_122_7 : PW B X 122 7 lv (st) h Q ↔ PW B X 122 8 lv (.int 1 :: st) h Q := PW_step rfl rfl rfl rfl
theorem u_122_8 : PW B X 122 8 lv (st) h Q ↔ PW B X 122 9 lv (.int 5 :: st) h Q := PW_step rfl rfl rfl rfl
theorem u_122_9 : PW B X 122 9 lv (.int q1 :: .int q0 :: .ref a :: st) h Q ↔ (pm_w st ≤ 8 ∧ pm_io B h a 10 = true ∧ PW B X 118 0 [some (.ref a), some (.int q0), some (.int q1), none] [] h (fun r h' => PW B X 122 12 lv (r.toList ++ st) h' Q)) := PW_cv (y := 118) (as := [.int q0, .int q1]) (rest := st) rfl rfl rfl rfl rfl ⟨Nat.le_of_ble_eq_true rfl, Nat.le_of_ble_eq_true rfl, Nat.le_of_ble_eq_true rfl⟩
theorem u_122_12 : PW B X 122 12 [some (.ref a)] (st) h Q ↔ PW B X 122 13 [some (.ref a)] (.ref a :: st) h Q := PW_step rfl rfl rfl rfl
theorem u_122_12n : PW B X 122 12 [some .null] (st) h Q ↔ PW B X 122 13 [some .null] (.null :: st) h Q := PW_step rfl rfl rfl rfl
theorem u_122_13 : PW B X 122 13 lv (st) h Q ↔ PW B X 122 14 lv (.int 4 :: st) h Q := PW_step rfl rfl rfl rfl
theorem u_122_14 : PW B X 122 14 lv (st) h Q ↔ PW B X 122 15 lv (.int 5 :: st) h Q := PW_step rfl rfl rfl rfl
theorem u_122_15 : PW B X 122 15 lv (.int q1 :: .int q0 :: .ref a :: st) h Q ↔ (pm_w st ≤ 8 ∧ pm_io B h a 10 = true ∧ PW B X 119 0 [some (.ref a), some (.int q0), some (.int q1), none] [] h (fun r h' => PW B X 122 18 lv (r.toList ++ st) h' Q)) := PW_cv (y := 119) (as := [.int q0, .int q1]) (rest := st) rfl rfl rfl rfl rfl ⟨Nat.le_of_ble_eq_true rfl, Nat.le_of_ble_eq_true rfl, Nat.le_of_ble_eq_true rfl⟩
theorem u_122_18 : PW B X 122 18 [some (.ref a)] (st) h Q ↔ PW B X 122 19 [some (.ref a)] (.ref a :: st) h Q := PW_step rfl rfl rfl rfl
theorem u_122_18n : PW B X 122 18 [some .null] (st) h Q ↔ PW B X 122 19 [some .null] (.null :: st) h Q := PW_step rfl rfl rfl rfl
theorem u_122_19 : PW B X 122 19 lv (st) h Q ↔ PW B X 122 20 lv (.int 4 :: st) h Q := PW_step rfl rfl rfl rfl
theorem u_122_20 : PW B X 122 20 lv (st) h Q ↔ PW B X 122 21 lv (.int 5 :: st) h Q := PW_step rfl rfl rfl rfl
theorem u_122_21 : PW B X 122 21 lv (.int q1 :: .int q0 :: .ref a :: st) h Q ↔ (pm_w st ≤ 8 ∧ pm_io B h a 10 = true ∧ PW B X 120 0 [some (.ref a), some (.int q0), some (.int q1), none] [] h (fun r h' => PW B X 122 24 lv (r.toList ++ st) h' Q)) := PW_cv (y := 120) (as := [.int q0, .int q1]) (rest := st) rfl rfl rfl rfl rfl ⟨Nat.le_of_ble_eq_true rfl, Nat.le_of_ble_eq_true rfl, Nat.le_of_ble_eq_true rfl⟩
theorem u_122_24 : PW B X 122 24 lv (.int x :: st) h Q ↔ (if x ≤ 0 then PW B X 122 31 lv (st) h Q else PW B X 122 27 lv (st) h Q) := PW_if rfl rfl pm_c_le
theorem u_122_27 : PW B X 122 27 lv (st) h Q ↔ PW B X 122 28 lv (.int 0 :: st) h Q := PW_step rfl rfl rfl rfl
theorem u_122_28 : PW B X 122 28 lv (st) h Q ↔ PW B X 122 32 lv (st) h Q := PW_step rfl rfl rfl rfl
theorem u_122_31 : PW B X 122 31 lv (st) h Q ↔ PW B X 122 32 lv (.int 1 :: st) h Q := PW_step rfl rfl rfl rfl
theorem u_122_32 : PW B X 122 32 lv ([.int x]) h Q ↔ Q (some (.int x)) h := PW_ret rfl rfl
-- 123 Ref_partOf
theorem u_123_0 : PW B X 123 0 [v0, v1, some (.int x), v3, v4] (st) h Q ↔ PW B X 123 1 [v0, v1, some (.int x), v3, v4] (.int x :: st) h Q := PW_step rfl rfl rfl rfl
theorem u_123_1 : PW B X 123 1 lv (.int x :: st) h Q ↔ (if 0 ≤ x then PW B X 123 12 lv (st) h Q else PW B X 123 4 lv (st) h Q) := PW_if rfl rfl pm_c_ge
theorem u_123_4 : PW B X 123 4 [some (.ref a), v1, v2, v3, v4] (st) h Q ↔ PW B X 123 5 [some (.ref a), v1, v2, v3, v4] (.ref a :: st) h Q := PW_step rfl rfl rfl rfl
theorem u_123_4n : PW B X 123 4 [some .null, v1, v2, v3, v4] (st) h Q ↔ PW B X 123 5 [some .null, v1, v2, v3, v4] (.null :: st) h Q := PW_step rfl rfl rfl rfl
theorem u_123_5 : PW B X 123 5 lv (.ref a :: st) h Q ↔ pm_O (pm_gf (pm_at B h a) 10 29) (fun v => PW B X 123 8 lv (v :: st) h Q) := PW_getf rfl rfl
theorem u_123_8 : PW B X 123 8 [v0, some (.int x), v2, v3, v4] (st) h Q ↔ PW B X 123 9 [v0, some (.int x), v2, v3, v4] (.int x :: st) h Q := PW_step rfl rfl rfl rfl
theorem u_123_9 : PW B X 123 9 lv (.int x :: .ref a :: st) h Q ↔ pm_O (pm_ldi 0 (pm_at B h a) x) (fun v => PW B X 123 10 lv (v :: st) h Q) := PW_iald rfl rfl
theorem u_123_10 : PW B X 123 10 lv (.int x :: st) h Q ↔ PW B X 123 11 lv (.long x.toInt64 :: st) h Q := PW_step rfl rfl rfl rfl
theorem u_123_11 : PW B X 123 11 lv ([.long z]) h Q ↔ Q (some (.long z)) h := PW_ret rfl rfl
theorem u_123_12 : PW B X 123 12 [some (.ref a), v1, v2, v3, v4] (st) h Q ↔ PW B X 123 13 [some (.ref a), v1, v2, v3, v4] (.ref a :: st) h Q := PW_step rfl rfl rfl rfl
theorem u_123_12n : PW B X 123 12 [some .null, v1, v2, v3, v4] (st) h Q ↔ PW B X 123 13 [some .null, v1, v2, v3, v4] (.null :: st) h Q := PW_step rfl rfl rfl rfl
theorem u_123_13 : PW B X 123 13 lv (st) h Q ↔ PW B X 123 15 lv (.int 6 :: st) h Q := PW_step rfl rfl rfl rfl
theorem u_123_15 : PW B X 123 15 lv (st) h Q ↔ PW B X 123 16 lv (.int 1 :: st) h Q := PW_step rfl rfl rfl rfl
theorem u_123_16 : PW B X 123 16 lv (.int q1 :: .int q0 :: .ref a :: st) h Q ↔ (pm_w st ≤ 8 ∧ pm_io B h a 10 = true ∧ PW B X 111 0 [some (.ref a), some (.int q0), some (.int q1)] [] h (fun r h' => PW B X 123 19 lv (r.toList ++ st) h' Q)) := PW_cv (y := 111) (as := [.int q0, .int q1]) (rest := st) rfl rfl rfl rfl rfl ⟨Nat.le_of_ble_eq_true rfl, Nat.le_of_ble_eq_true rfl, Nat.le_of_ble_eq_true rfl⟩
theorem u_123_19 : PW B X 123 19 lv (st) h Q ↔ PW B X 123 20 lv (.int 0 :: st) h Q := PW_step rfl rfl rfl rfl
theorem u_123_20 : PW B X 123 20 [v0, v1, v2, v3, v4] (.int x :: st) h Q ↔ PW B X 123 21 [v0, v1, pm_c v2, some (.int x), v4] (st) h Q := PW_step rfl rfl rfl rfl
theorem u_123_21 : PW B X 123 21 [v0, v1, v2, some (.int x), v4] (st) h Q ↔ PW B X 123 22 [v0, v1, v2, some (.int x), v4] (.int x :: st) h Q := PW_step rfl rfl rfl rfl
theorem u_123_22 : PW B X 123 22 lv (st) h Q ↔ PW B X 123 25 lv (.int 168 :: st) h Q := PW_step rfl rfl rfl rfl
theorem u_123_25 : PW B X 123 25 lv (.int y :: .int x :: st) h Q ↔ (if y ≤ x then PW B X 123 72 lv (st) h Q else PW B X 123 28 lv (st) h Q) := PW_icmp rfl rfl pm_c_ge
theorem u_123_28 : PW B X 123 28 lv (st) h Q ↔ PW B X 123 29 lv (.int 0 :: st) h Q := PW_step rfl rfl rfl rfl
theorem u_123_29 : PW B X 123 29 [v0, v1, v2, v3, v4] (.int x :: st) h Q ↔ PW B X 123 31 [v0, v1, v2, pm_c v3, some (.int x)] (st) h Q := PW_step rfl rfl rfl rfl
theorem u_123_31 : PW B X 123 31 [v0, v1, v2, v3, some (.int x)] (st) h Q ↔ PW B X 123 33 [v0, v1, v2, v3, some (.int x)] (.int x :: st) h Q := PW_step rfl rfl rfl rfl
theorem u_123_33 : PW B X 123 33 [some (.ref a), v1, v2, v3, v4] (st) h Q ↔ PW B X 123 34 [some (.ref a), v1, v2, v3, v4] (.ref a :: st) h Q := PW_step rfl rfl rfl rfl
theorem u_123_33n : PW B X 123 33 [some .null, v1, v2, v3, v4] (st) h Q ↔ PW B X 123 34 [some .null, v1, v2, v3, v4] (.null :: st) h Q := PW_step rfl rfl rfl rfl
theorem u_123_34 : PW B X 123 34 lv (.ref a :: st) h Q ↔ pm_O (pm_gf (pm_at B h a) 10 30) (fun v => PW B X 123 37 lv (v :: st) h Q) := PW_getf rfl rfl
theorem u_123_37 : PW B X 123 37 lv (st) h Q ↔ PW B X 123 40 lv (.int 168 :: st) h Q := PW_step rfl rfl rfl rfl
theorem u_123_40 : PW B X 123 40 [v0, some (.int x), v2, v3, v4] (st) h Q ↔ PW B X 123 41 [v0, some (.int x), v2, v3, v4] (.int x :: st) h Q := PW_step rfl rfl rfl rfl
theorem u_123_41 : PW B X 123 41 lv (.int y :: .int x :: st) h Q ↔ PW B X 123 42 lv (.int (x * y) :: st) h Q := PW_step rfl rfl rfl rfl
theorem u_123_42 : PW B X 123 42 [v0, v1, v2, some (.int x), v4] (st) h Q ↔ PW B X 123 43 [v0, v1, v2, some (.int x), v4] (.int x :: st) h Q := PW_step rfl rfl rfl rfl
theorem u_123_43 : PW B X 123 43 lv (.int y :: .int x :: st) h Q ↔ PW B X 123 44 lv (.int (x + y) :: st) h Q := PW_step rfl rfl rfl rfl
theorem u_123_44 : PW B X 123 44 lv (.int x :: .ref a :: st) h Q ↔ pm_O (pm_ldi 0 (pm_at B h a) x) (fun v => PW B X 123 45 lv (v :: st) h Q) := PW_iald rfl rfl
theorem u_123_45 : PW B X 123 45 lv (.int y :: .int x :: st) h Q ↔ (if y ≤ x then PW B X 123 66 lv (st) h Q else PW B X 123 48 lv (st) h Q) := PW_icmp rfl rfl pm_c_ge
theorem u_123_48 : PW B X 123 48 [some (.ref a), v1, v2, v3, v4] (st) h Q ↔ PW B X 123 49 [some (.ref a), v1, v2, v3, v4] (.ref a :: st) h Q := PW_step rfl rfl rfl rfl
theorem u_123_48n : PW B X 123 48 [some .null, v1, v2, v3, v4] (st) h Q ↔ PW B X 123 49 [some .null, v1, v2, v3, v4] (.null :: st) h Q := PW_step rfl rfl rfl rfl
theorem u_123_49 : PW B X 123 49 lv (st) h Q ↔ PW B X 123 51 lv (.int 6 :: st) h Q := PW_step rfl rfl rfl rfl
theorem u_123_51 : PW B X 123 51 [some (.ref a), v1, v2, v3, v4] (st) h Q ↔ PW B X 123 52 [some (.ref a), v1, v2, v3, v4] (.ref a :: st) h Q := PW_step rfl rfl rfl rfl
theorem u_123_51n : PW B X 123 51 [some .null, v1, v2, v3, v4] (st) h Q ↔ PW B X 123 52 [some .null, v1, v2, v3, v4] (.null :: st) h Q := PW_step rfl rfl rfl rfl
theorem u_123_52 : PW B X 123 52 lv (.ref a :: st) h Q ↔ pm_O (pm_gf (pm_at B h a) 10 26) (fun v => PW B X 123 55 lv (v :: st) h Q) := PW_getf rfl rfl
theorem u_123_55 : PW B X 123 55 [v0, v1, v2, some (.int x), v4] (st) h Q ↔ PW B X 123 56 [v0, v1, v2, some (.int x), v4] (.int x :: st) h Q := PW_step rfl rfl rfl rfl
theorem u_123_56 : PW B X 123 56 lv (.int x :: .ref a :: st) h Q ↔ pm_O (pm_ldi 0 (pm_at B h a) x) (fun v => PW B X 123 57 lv (v :: st) h Q) := PW_iald rfl rfl
theorem u_123_57 : PW B X 123 57 lv (.int q1 :: .int q0 :: .ref a :: st) h Q ↔ (pm_w st ≤ 8 ∧ pm_io B h a 10 = true ∧ PW B X 112 0 [some (.ref a), some (.int q0), some (.int q1), none, none, none, none, none] [] h (fun r h' => PW B X 123 60 lv (r.toList ++ st) h' Q)) := PW_cv (y := 112) (as := [.int q0, .int q1]) (rest := st) rfl rfl rfl rfl rfl ⟨Nat.le_of_ble_eq_true rfl, Nat.le_of_ble_eq_true rfl, Nat.le_of_ble_eq_true rfl⟩
theorem u_123_60 : PW B X 123 60 [v0, v1, v2, v3, some (.int x)] (st) h Q ↔ PW B X 123 63 [v0, v1, v2, pm_c v3, some (.int (x + 1))] (st) h Q := PW_step rfl rfl rfl rfl
theorem u_123_63 : PW B X 123 63 lv (st) h Q ↔ PW B X 123 31 lv (st) h Q := PW_step rfl rfl rfl rfl
theorem u_123_66 : PW B X 123 66 [v0, v1, v2, some (.int x), v4] (st) h Q ↔ PW B X 123 69 [v0, v1, pm_c v2, some (.int (x + 1)), v4] (st) h Q := PW_step rfl rfl rfl rfl
theorem u_123_69 : PW B X 123 69 lv (st) h Q ↔ PW B X 123 21 lv (st) h Q := PW_step rfl rfl rfl rfl
theorem u_123_72 : PW B X 123 72 [some (.ref a), v1, v2, v3, v4] (st) h Q ↔ PW B X 123 73 [some (.ref a), v1, v2, v3, v4] (.ref a :: st) h Q := PW_step rfl rfl rfl rfl
theorem u_123_72n : PW B X 123 72 [some .null, v1, v2, v3, v4] (st) h Q ↔ PW B X 123 73 [some .null, v1, v2, v3, v4] (.null :: st) h Q := PW_step rfl rfl rfl rfl
theorem u_123_73 : PW B X 123 73 [v0, v1, some (.int x), v3, v4] (st) h Q ↔ PW B X 123 74 [v0, v1, some (.int x), v3, v4] (.int x :: st) h Q := PW_step rfl rfl rfl rfl
theorem u_123_74 : PW B X 123 74 lv (st) h Q ↔ PW B X 123 75 lv (.int 2 :: st) h Q := PW_step rfl rfl rfl rfl
theorem u_123_75 : PW B X 123 75 lv (.int y :: .int x :: st) h Q ↔ (¬ y = 0 ∧ PW B X 123 76 lv (.int (x - x / y * y) :: st) h Q) := PW_irem rfl
theorem u_123_76 : PW B X 123 76 lv (.int x :: st) h Q ↔ (if ¬ x = 0 then PW B X 123 83 lv (st) h Q else PW B X 123 79 lv (st) h Q) := PW_if rfl rfl pm_c_ne
theorem u_123_79 : PW B X 123 79 [v0, some (.int x), v2, v3, v4] (st) h Q ↔ PW B X 123 80 [v0, some (.int x), v2, v3, v4] (.int x :: st) h Q := PW_step rfl rfl rfl rfl
theorem u_123_80 : PW B X 123 80 lv (st) h Q ↔ PW B X 123 85 lv (st) h Q := PW_step rfl rfl rfl rfl
theorem u_123_83 : PW B X 123 83 lv (st) h Q ↔ PW B X 123 85 lv (.int 6 :: st) h Q := PW_step rfl rfl rfl rfl
theorem u_123_85 : PW B X 123 85 [v0, v1, some (.int x), v3, v4] (st) h Q ↔ PW B X 123 86 [v0, v1, some (.int x), v3, v4] (.int x :: st) h Q := PW_step rfl rfl rfl rfl
theorem u_123_86 : PW B X 123 86 lv (st) h Q ↔ PW B X 123 87 lv (.int 2 :: st) h Q := PW_step rfl rfl rfl rfl
theorem u_123_87 : PW B X 123 87 lv (.int y :: .int x :: st) h Q ↔ (¬ y = 0 ∧ PW B X 123 88 lv (.int (x / y) :: st) h Q) := PW_idiv rfl
theorem u_123_88 : PW B X 123 88 lv (.int q1 :: .int q0 :: .ref a :: st) h Q ↔ (pm_w st ≤ 8 ∧ pm_io B h a 10 = true ∧ PW B X 124 0 [some (.ref a), some (.int q0), some (.int q1), none] [] h (fun r h' => PW B X 123 91 lv (r.toList ++ st) h' Q)) := PW_cv (y := 124) (as := [.int q0, .int q1]) (rest := st) rfl rfl rfl rfl rfl ⟨Nat.le_of_ble_eq_true rfl, Nat.le_of_ble_eq_true rfl, Nat.le_of_ble_eq_true rfl⟩
theorem u_123_91 : PW B X 123 91 lv ([.long z]) h Q ↔ Q (some (.long z)) h := PW_ret rfl rfl
-- 124 Ref_digits
theorem u_124_0 : PW B X 124 0 lv (st) h Q ↔ PW B X 124 1 lv (.int 2 :: st) h Q := PW_step rfl rfl rfl rfl
theorem u_124_1 : PW B X 124 1 [v0, v1, some (.int x), v3] (st) h Q ↔ PW B X 124 2 [v0, v1, some (.int x), v3] (.int x :: st) h Q := PW_step rfl rfl rfl rfl
theorem u_124_2 : PW B X 124 2 lv (.int y :: .int x :: st) h Q ↔ PW B X 124 3 lv (.int (x * y) :: st) h Q := PW_step rfl rfl rfl rfl
theorem u_124_3 : PW B X 124 3 [v0, v1, v2, v3] (.int x :: st) h Q ↔ PW B X 124 4 [v0, v1, pm_c v2, some (.int x)] (st) h Q := PW_step rfl rfl rfl rfl
theorem u_124_4 : PW B X 124 4 [v0, v1, v2, some (.int x)] (st) h Q ↔ PW B X 124 5 [v0, v1, v2, some (.int x)] (.int x :: st) h Q := PW_step rfl rfl rfl rfl
theorem u_124_5 : PW B X 124 5 lv (st) h Q ↔ PW B X 124 6 lv (.int 1 :: st) h Q := PW_step rfl rfl rfl rfl
theorem u_124_6 : PW B X 124 6 lv (.int y :: .int x :: st) h Q ↔ PW B X 124 7 lv (.int (x + y) :: st) h Q := PW_step rfl rfl rfl rfl
theorem u_124_7 : PW B X 124 7 lv (st) h Q ↔ PW B X 124 9 lv (.int 40 :: st) h Q := PW_step rfl rfl rfl rfl
theorem u_124_9 : PW B X 124 9 lv (.int y :: .int x :: st) h Q ↔ (if y ≤ x then PW B X 124 44 lv (st) h Q else PW B X 124 12 lv (st) h Q) := PW_icmp rfl rfl pm_c_ge
theorem u_124_12 : PW B X 124 12 [some (.ref a), v1, v2, v3] (st) h Q ↔ PW B X 124 13 [some (.ref a), v1, v2, v3] (.ref a :: st) h Q := PW_step rfl rfl rfl rfl
theorem u_124_12n : PW B X 124 12 [some .null, v1, v2, v3] (st) h Q ↔ PW B X 124 13 [some .null, v1, v2, v3] (.null :: st) h Q := PW_step rfl rfl rfl rfl
theorem u_124_13 : PW B X 124 13 lv (.ref a :: st) h Q ↔ pm_O (pm_gf (pm_at B h a) 10 27) (fun v => PW B X 124 16 lv (v :: st) h Q) := PW_getf rfl rfl
theorem u_124_16 : PW B X 124 16 lv (st) h Q ↔ PW B X 124 18 lv (.int 40 :: st) h Q := PW_step rfl rfl rfl rfl
theorem u_124_18 : PW B X 124 18 [v0, some (.int x), v2, v3] (st) h Q ↔ PW B X 124 19 [v0, some (.int x), v2, v3] (.int x :: st) h Q := PW_step rfl rfl rfl rfl
theorem u_124_19 : PW B X 124 19 lv (.int y :: .int x :: st) h Q ↔ PW B X 124 20 lv (.int (x * y) :: st) h Q := PW_step rfl rfl rfl rfl
theorem u_124_20 : PW B X 124 20 [v0, v1, v2, some (.int x)] (st) h Q ↔ PW B X 124 21 [v0, v1, v2, some (.int x)] (.int x :: st) h Q := PW_step rfl rfl rfl rfl
theorem u_124_21 : PW B X 124 21 lv (.int y :: .int x :: st) h Q ↔ PW B X 124 22 lv (.int (x + y) :: st) h Q := PW_step rfl rfl rfl rfl
theorem u_124_22 : PW B X 124 22 lv (st) h Q ↔ PW B X 124 23 lv (.int 1 :: st) h Q := PW_step rfl rfl rfl rfl
theorem u_124_23 : PW B X 124 23 lv (.int y :: .int x :: st) h Q ↔ PW B X 124 24 lv (.int (x + y) :: st) h Q := PW_step rfl rfl rfl rfl
theorem u_124_24 : PW B X 124 24 lv (.int x :: .ref a :: st) h Q ↔ pm_O (pm_ldl (pm_at B h a) x) (fun v => PW B X 124 25 lv (v :: st) h Q) := PW_lald rfl
theorem u_124_25 : PW B X 124 25 lv (st) h Q ↔ PW B X 124 28 lv (.long 1000000000 :: st) h Q := PW_step rfl rfl rfl rfl
theorem u_124_28 : PW B X 124 28 lv (.long w :: .long z :: st) h Q ↔ PW B X 124 29 lv (.long (z * w) :: st) h Q := PW_step rfl rfl rfl rfl
theorem u_124_29 : PW B X 124 29 [some (.ref a), v1, v2, v3] (st) h Q ↔ PW B X 124 30 [some (.ref a), v1, v2, v3] (.ref a :: st) h Q := PW_step rfl rfl rfl rfl
theorem u_124_29n : PW B X 124 29 [some .null, v1, v2, v3] (st) h Q ↔ PW B X 124 30 [some .null, v1, v2, v3] (.null :: st) h Q := PW_step rfl rfl rfl rfl
theorem u_124_30 : PW B X 124 30 lv (.ref a :: st) h Q ↔ pm_O (pm_gf (pm_at B h a) 10 27) (fun v => PW B X 124 33 lv (v :: st) h Q) := PW_getf rfl rfl
theorem u_124_33 : PW B X 124 33 lv (st) h Q ↔ PW B X 124 35 lv (.int 40 :: st) h Q := PW_step rfl rfl rfl rfl
theorem u_124_35 : PW B X 124 35 [v0, some (.int x), v2, v3] (st) h Q ↔ PW B X 124 36 [v0, some (.int x), v2, v3] (.int x :: st) h Q := PW_step rfl rfl rfl rfl
theorem u_124_36 : PW B X 124 36 lv (.int y :: .int x :: st) h Q ↔ PW B X 124 37 lv (.int (x * y) :: st) h Q := PW_step rfl rfl rfl rfl
theorem u_124_37 : PW B X 124 37 [v0, v1, v2, some (.int x)] (st) h Q ↔ PW B X 124 38 [v0, v1, v2, some (.int x)] (.int x :: st) h Q := PW_step rfl rfl rfl rfl
theorem u_124_38 : PW B X 124 38 lv (.int y :: .int x :: st) h Q ↔ PW B X 124 39 lv (.int (x + y) :: st) h Q := PW_step rfl rfl rfl rfl
theorem u_124_39 : PW B X 124 39 lv (.int x :: .ref a :: st) h Q ↔ pm_O (pm_ldl (pm_at B h a) x) (fun v => PW B X 124 40 lv (v :: st) h Q) := PW_lald rfl
theorem u_124_40 : PW B X 124 40 lv (.long w :: .long z :: st) h Q ↔ PW B X 124 41 lv (.long (z + w) :: st) h Q := PW_step rfl rfl rfl rfl
theorem u_124_41 : PW B X 124 41 lv (st) h Q ↔ PW B X 124 45 lv (st) h Q := PW_step rfl rfl rfl rfl
theorem u_124_44 : PW B X 124 44 lv (st) h Q ↔ PW B X 124 45 lv (.long 0 :: st) h Q := PW_step rfl rfl rfl rfl
theorem u_124_45 : PW B X 124 45 lv ([.long z]) h Q ↔ Q (some (.long z)) h := PW_ret rfl rfl
-- 125 Ref_caseOf
theorem u_125_0 : PW B X 125 0 [some (.ref a), v1, v2, v3] (st) h Q ↔ PW B X 125 1 [some (.ref a), v1, v2, v3] (.ref a :: st) h Q := PW_step rfl rfl rfl rfl
theorem u_125_0n : PW B X 125 0 [some .null, v1, v2, v3] (st) h Q ↔ PW B X 125 1 [some .null, v1, v2, v3] (.null :: st) h Q := PW_step rfl rfl rfl rfl
theorem u_125_1 : PW B X 125 1 [v0, some (.int x), v2, v3] (st) h Q ↔ PW B X 125 2 [v0, some (.int x), v2, v3] (.int x :: st) h Q := PW_step rfl rfl rfl rfl
theorem u_125_2 : PW B X 125 2 lv (.int q0 :: .ref a :: st) h Q ↔ (pm_w st ≤ 8 ∧ pm_io B h a 10 = true ∧ PW B X 96 0 [some (.ref a), some (.int q0)] [] h (fun r h' => PW B X 125 5 lv (r.toList ++ st) h' Q)) := PW_cv (y := 96) (as := [.int q0]) (rest := st) rfl rfl rfl rfl rfl ⟨Nat.le_of_ble_eq_true rfl, Nat.le_of_ble_eq_true rfl, Nat.le_of_ble_eq_true rfl⟩
theorem u_125_5 : PW B X 125 5 lv (.int x :: st) h Q ↔ (if x = 0 then PW B X 125 37 lv (st) h Q else PW B X 125 8 lv (st) h Q) := PW_if rfl rfl pm_c_eq
theorem u_125_8 : PW B X 125 8 [v0, v1, some (.int x), v3] (st) h Q ↔ PW B X 125 9 [v0, v1, some (.int x), v3] (.int x :: st) h Q := PW_step rfl rfl rfl rfl
theorem u_125_9 : PW B X 125 9 lv (.int x :: st) h Q ↔ PW B X 125 10 lv (.long x.toInt64 :: st) h Q := PW_step rfl rfl rfl rfl
theorem u_125_10 : PW B X 125 10 lv (st) h Q ↔ PW B X 125 11 lv (.long 0 :: st) h Q := PW_step rfl rfl rfl rfl
theorem u_125_11 : PW B X 125 11 lv (st) h Q ↔ PW B X 125 14 lv (.long 2 :: st) h Q := PW_step rfl rfl rfl rfl
theorem u_125_14 : PW B X 125 14 lv (.long p2 :: .long p1 :: .long p0 :: st) h Q ↔ (pm_w st ≤ 8 ∧ PW B X 94 0 [some (.long p0), none, some (.long p1), none, some (.long p2), none] [] h (fun r h' => PW B X 125 17 lv (r.toList ++ st) h' Q)) := PW_cs (y := 94) (as := [.long p0, .long p1, .long p2]) (rest := st) rfl rfl rfl rfl rfl ⟨Nat.le_of_ble_eq_true rfl, Nat.le_of_ble_eq_true rfl, Nat.le_of_ble_eq_true rfl⟩
theorem u_125_17 : PW B X 125 17 lv (.int x :: st) h Q ↔ (if x = 0 then PW B X 125 37 lv (st) h Q else PW B X 125 20 lv (st) h Q) := PW_if rfl rfl pm_c_eq
theorem u_125_20 : PW B X 125 20 [v0, v1, v2, some (.int x)] (st) h Q ↔ PW B X 125 21 [v0, v1, v2, some (.int x)] (.int x :: st) h Q := PW_step rfl rfl rfl rfl
theorem u_125_21 : PW B X 125 21 lv (.int x :: st) h Q ↔ PW B X 125 22 lv (.long x.toInt64 :: st) h Q := PW_step rfl rfl rfl rfl
theorem u_125_22 : PW B X 125 22 lv (st) h Q ↔ PW B X 125 23 lv (.long 0 :: st) h Q := PW_step rfl rfl rfl rfl
theorem u_125_23 : PW B X 125 23 lv (st) h Q ↔ PW B X 125 24 lv (.long 1 :: st) h Q := PW_step rfl rfl rfl rfl
theorem u_125_24 : PW B X 125 24 lv (.long p2 :: .long p1 :: .long p0 :: st) h Q ↔ (pm_w st ≤ 8 ∧ PW B X 94 0 [some (.long p0), none, some (.long p1), none, some (.long p2), none] [] h (fun r h' => PW B X 125 27 lv (r.toList ++ st) h' Q)) := PW_cs (y := 94) (as := [.long p0, .long p1, .long p2]) (rest := st) rfl rfl rfl rfl rfl ⟨Nat.le_of_ble_eq_true rfl, Nat.le_of_ble_eq_true rfl, Nat.le_of_ble_eq_true rfl⟩
theorem u_125_27 : PW B X 125 27 lv (.int x :: st) h Q ↔ (if x = 0 then PW B X 125 37 lv (st) h Q else PW B X 125 30 lv (st) h Q) := PW_if rfl rfl pm_c_eq
theorem u_125_30 : PW B X 125 30 [some (.ref a), v1, v2, v3] (st) h Q ↔ PW B X 125 31 [some (.ref a), v1, v2, v3] (.ref a :: st) h Q := PW_step rfl rfl rfl rfl
theorem u_125_30n : PW B X 125 30 [some .null, v1, v2, v3] (st) h Q ↔ PW B X 125 31 [some .null, v1, v2, v3] (.null :: st) h Q := PW_step rfl rfl rfl rfl
theorem u_125_31 : PW B X 125 31 lv (.ref a :: st) h Q ↔ pm_O (pm_gf (pm_at B h a) 10 10) (fun v => PW B X 125 34 lv (v :: st) h Q) := PW_getf rfl rfl
theorem u_125_34 : PW B X 125 34 lv (.int x :: st) h Q ↔ (if ¬ x = 0 then PW B X 125 39 lv (st) h Q else PW B X 125 37 lv (st) h Q) := PW_if rfl rfl pm_c_ne
theorem u_125_37 : PW B X 125 37 lv (st) h Q ↔ PW B X 125 38 lv (.int (-1) :: st) h Q := PW_step rfl rfl rfl rfl
theorem u_125_38 : PW B X 125 38 lv ([.int x]) h Q ↔ Q (some (.int x)) h := PW_ret rfl rfl
theorem u_125_39 : PW B X 125 39 [some (.ref a), v1, v2, v3] (st) h Q ↔ PW B X 125 40 [some (.ref a), v1, v2, v3] (.ref a :: st) h Q := PW_step rfl rfl rfl rfl
theorem u_125_39n : PW B X 125 39 [some .null, v1, v2, v3] (st) h Q ↔ PW B X 125 40 [some .null, v1, v2, v3] (.null :: st) h Q := PW_step rfl rfl rfl rfl
theorem u_125_40 : PW B X 125 40 [v0, some (.int x), v2, v3] (st) h Q ↔ PW B X 125 41 [v0, some (.int x), v2, v3] (.int x :: st) h Q := PW_step rfl rfl rfl rfl
theorem u_125_41 : PW B X 125 41 [v0, v1, some (.int x), v3] (st) h Q ↔ PW B X 125 42 [v0, v1, some (.int x), v3] (.int x :: st) h Q := PW_step rfl rfl rfl rfl
theorem u_125_42 : PW B X 125 42 lv (.int q1 :: .int q0 :: .ref a :: st) h Q ↔ (pm_w st ≤ 8 ∧ pm_io B h a 10 = true ∧ PW B X 108 0 [some (.ref a), some (.int q0), some (.int q1), none] [] h (fun r h' => PW B X 125 45 lv (r.toList ++ st) h' Q)) := PW_cv (y := 108) (as := [.int q0, .int q1]) (rest := st) rfl rfl rfl rfl rfl ⟨Nat.le_of_ble_eq_true rfl, Nat.le_of_ble_eq_true rfl, Nat.le_of_ble_eq_true rfl⟩
theorem u_125_45 : PW B X 125 45 [v0, v1, v2, some (.int x)] (st) h Q ↔ PW B X 125 46 [v0, v1, v2, some (.int x)] (.int x :: st) h Q := PW_step rfl rfl rfl rfl
theorem u_125_46 : PW B X 125 46 lv (.int x :: st) h Q ↔ (if ¬ x = 0 then PW B X 125 56 lv (st) h Q else PW B X 125 49 lv (st) h Q) := PW_if rfl rfl pm_c_ne
theorem u_125_49 : PW B X 125 49 [some (.ref a), v1, v2, v3] (st) h Q ↔ PW B X 125 50 [some (.ref a), v1, v2, v3] (.ref a :: st) h Q := PW_step rfl rfl rfl rfl
theorem u_125_49n : PW B X 125 49 [some .null, v1, v2, v3] (st) h Q ↔ PW B X 125 50 [some .null, v1, v2, v3] (.null :: st) h Q := PW_step rfl rfl rfl rfl
theorem u_125_50 : PW B X 125 50 lv (.ref a :: st) h Q ↔ pm_O (pm_gf (pm_at B h a) 10 31) (fun v => PW B X 125 53 lv (v :: st) h Q) := PW_getf rfl rfl
theorem u_125_53 : PW B X 125 53 lv (st) h Q ↔ PW B X 125 60 lv (st) h Q := PW_step rfl rfl rfl rfl
theorem u_125_56 : PW B X 125 56 [some (.ref a), v1, v2, v3] (st) h Q ↔ PW B X 125 57 [some (.ref a), v1, v2, v3] (.ref a :: st) h Q := PW_step rfl rfl rfl rfl
theorem u_125_56n : PW B X 125 56 [some .null, v1, v2, v3] (st) h Q ↔ PW B X 125 57 [some .null, v1, v2, v3] (.null :: st) h Q := PW_step rfl rfl rfl rfl
theorem u_125_57 : PW B X 125 57 lv (.ref a :: st) h Q ↔ pm_O (pm_gf (pm_at B h a) 10 32) (fun v => PW B X 125 60 lv (v :: st) h Q) := PW_getf rfl rfl
theorem u_125_60 : PW B X 125 60 lv ([.int x]) h Q ↔ Q (some (.int x)) h := PW_ret rfl rfl
-- 126 Ref_rank
theorem u_126_0 : PW B X 126 0 lv (st) h Q ↔ PW B X 126 1 lv (.int 0 :: st) h Q := PW_step rfl rfl rfl rfl
theorem u_126_1 : PW B X 126 1 [v0, v1, v2, v3, v4, v5, v6, v7, v8, v9, v10, v11] (.int x :: st) h Q ↔ PW B X 126 2 [v0, pm_c v1, some (.int x), v3, v4, v5, v6, v7, v8, v9, v10, v11] (st) h Q := PW_step rfl rfl rfl rfl
theorem u_126_2 : PW B X 126 2 lv (st) h Q ↔ PW B X 126 3 lv (.int 0 :: st) h Q := PW_step rfl rfl rfl rfl
theorem u_126_3 : PW B X 126 3 [v0, v1, v2, v3, v4, v5, v6, v7, v8, v9, v10, v11] (.int x :: st) h Q ↔ PW B X 126 4 [v0, v1, pm_c v2, some (.int x), v4, v5, v6, v7, v8, v9, v10, v11] (st) h Q := PW_step rfl rfl rfl rfl
theorem u_126_4 : PW B X 126 4 [v0, v1, v2, some (.int x), v4, v5, v6, v7, v8, v9, v10, v11] (st) h Q ↔ PW B X 126 5 [v0, v1, v2, some (.int x), v4, v5, v6, v7, v8, v9, v10, v11] (.int x :: st) h Q := PW_step rfl rfl rfl rfl
theorem u_126_5 : PW B X 126 5 [some (.ref a), v1, v2, v3, v4, v5, v6, v7, v8, v9, v10, v11] (st) h Q ↔ PW B X 126 6 [some (.ref a), v1, v2, v3, v4, v5, v6, v7, v8, v9, v10, v11] (.ref a :: st) h Q := PW_step rfl rfl rfl rfl
theorem u_126_5n : PW B X 126 5 [some .null, v1, v2, v3, v4, v5, v6, v7, v8, v9, v10, v11] (st) h Q ↔ PW B X 126 6 [some .null, v1, v2, v3, v4, v5, v6, v7, v8, v9, v10, v11] (.null :: st) h Q := PW_step rfl rfl rfl rfl
theorem u_126_6 : PW B X 126 6 lv (.ref a :: st) h Q ↔ pm_O (pm_gf (pm_at B h a) 10 0) (fun v => PW B X 126 9 lv (v :: st) h Q) := PW_getf rfl rfl
theorem u_126_9 : PW B X 126 9 lv (.int y :: .int x :: st) h Q ↔ (if y ≤ x then PW B X 126 107 lv (st) h Q else PW B X 126 12 lv (st) h Q) := PW_icmp rfl rfl pm_c_ge
theorem u_126_12 : PW B X 126 12 [some (.ref a), v1, v2, v3, v4, v5, v6, v7, v8, v9, v10, v11] (st) h Q ↔ PW B X 126 13 [some (.ref a), v1, v2, v3, v4, v5, v6, v7, v8, v9, v10, v11] (.ref a :: st) h Q := PW_step rfl rfl rfl rfl
theorem u_126_12n : PW B X 126 12 [some .null, v1, v2, v3, v4, v5, v6, v7, v8, v9, v10, v11] (st) h Q ↔ PW B X 126 13 [some .null, v1, v2, v3, v4, v5, v6, v7, v8, v9, v10, v11] (.null :: st) h Q := PW_step rfl rfl rfl rfl
theorem u_126_13 : PW B X 126 13 lv (.ref a :: st) h Q ↔ pm_O (pm_gf (pm_at B h a) 10 3) (fun v => PW B X 126 16 lv (v :: st) h Q) := PW_getf rfl rfl
theorem u_126_16 : PW B X 126 16 lv (st) h Q ↔ PW B X 126 17 lv (.int 2 :: st) h Q := PW_step rfl rfl rfl rfl
theorem u_126_17 : PW B X 126 17 [v0, v1, v2, some (.int x), v4, v5, v6, v7, v8, v9, v10, v11] (st) h Q ↔ PW B X 126 18 [v0, v1, v2, some (.int x), v4, v5, v6, v7, v8, v9, v10, v11] (.int x :: st) h Q := PW_step rfl rfl rfl rfl
theorem u_126_18 : PW B X 126 18 lv (.int y :: .int x :: st) h Q ↔ PW B X 126 19 lv (.int (x * y) :: st) h Q := PW_step rfl rfl rfl rfl
theorem u_126_19 : PW B X 126 19 lv (.int x :: .ref a :: st) h Q ↔ pm_O (pm_ldi 3 (pm_at B h a) x) (fun v => PW B X 126 20 lv (v :: st) h Q) := PW_bald rfl
theorem u_126_20 : PW B X 126 20 lv (.int x :: st) h Q ↔ (if x = 0 then PW B X 126 56 lv (st) h Q else PW B X 126 23 lv (st) h Q) := PW_if rfl rfl pm_c_eq
theorem u_126_23 : PW B X 126 23 [some (.ref a), v1, v2, v3, v4, v5, v6, v7, v8, v9, v10, v11] (st) h Q ↔ PW B X 126 24 [some (.ref a), v1, v2, v3, v4, v5, v6, v7, v8, v9, v10, v11] (.ref a :: st) h Q := PW_step rfl rfl rfl rfl
theorem u_126_23n : PW B X 126 23 [some .null, v1, v2, v3, v4, v5, v6, v7, v8, v9, v10, v11] (st) h Q ↔ PW B X 126 24 [some .null, v1, v2, v3, v4, v5, v6, v7, v8, v9, v10, v11] (.null :: st) h Q := PW_step rfl rfl rfl rfl
theorem u_126_24 : PW B X 126 24 [v0, v1, some (.int x), v3, v4, v5, v6, v7, v8, v9, v10, v11] (st) h Q ↔ PW B X 126 25 [v0, v1, some (.int x), v3, v4, v5, v6, v7, v8, v9, v10, v11] (.int x :: st) h Q := PW_step rfl rfl rfl rfl
theorem u_126_25 : PW B X 126 25 lv (st) h Q ↔ PW B X 126 26 lv (.long 1 :: st) h Q := PW_step rfl rfl rfl rfl
theorem u_126_26 : PW B X 126 26 lv (st) h Q ↔ PW B X 126 27 lv (.long 0 :: st) h Q := PW_step rfl rfl rfl rfl
theorem u_126_27 : PW B X 126 27 [some (.ref a), v1, v2, v3, v4, v5, v6, v7, v8, v9, v10, v11] (st) h Q ↔ PW B X 126 28 [some (.ref a), v1, v2, v3, v4, v5, v6, v7, v8, v9, v10, v11] (.ref a :: st) h Q := PW_step rfl rfl rfl rfl
theorem u_126_27n : PW B X 126 27 [some .null, v1, v2, v3, v4, v5, v6, v7, v8, v9, v10, v11] (st) h Q ↔ PW B X 126 28 [some .null, v1, v2, v3, v4, v5, v6, v7, v8, v9, v10, v11] (.null :: st) h Q := PW_step rfl rfl rfl rfl
theorem u_126_28 : PW B X 126 28 lv (.ref a :: st) h Q ↔ pm_O (pm_gf (pm_at B h a) 10 2) (fun v => PW B X 126 31 lv (v :: st) h Q) := PW_getf rfl rfl
theorem u_126_31 : PW B X 126 31 [v0, v1, v2, some (.int x), v4, v5, v6, v7, v8, v9, v10, v11] (st) h Q ↔ PW B X 126 32 [v0, v1, v2, some (.int x), v4, v5, v6, v7, v8, v9, v10, v11] (.int x :: st) h Q := PW_step rfl rfl rfl rfl
theorem u_126_32 : PW B X 126 32 lv (.int x :: .ref a :: st) h Q ↔ pm_O (pm_ldi 0 (pm_at B h a) x) (fun v => PW B X 126 33 lv (v :: st) h Q) := PW_iald rfl rfl
theorem u_126_33 : PW B X 126 33 lv (.int x :: st) h Q ↔ PW B X 126 34 lv (.int (-x) :: st) h Q := PW_step rfl rfl rfl rfl
theorem u_126_34 : PW B X 126 34 lv (.int x :: st) h Q ↔ PW B X 126 35 lv (.long x.toInt64 :: st) h Q := PW_step rfl rfl rfl rfl
theorem u_126_35 : PW B X 126 35 [v0, some (.int x), v2, v3, v4, v5, v6, v7, v8, v9, v10, v11] (st) h Q ↔ PW B X 126 36 [v0, some (.int x), v2, v3, v4, v5, v6, v7, v8, v9, v10, v11] (.int x :: st) h Q := PW_step rfl rfl rfl rfl
theorem u_126_36 : PW B X 126 36 lv (.int x :: st) h Q ↔ (if x = 0 then PW B X 126 49 lv (st) h Q else PW B X 126 39 lv (st) h Q) := PW_if rfl rfl pm_c_eq
theorem u_126_39 : PW B X 126 39 [some (.ref a), v1, v2, v3, v4, v5, v6, v7, v8, v9, v10, v11] (st) h Q ↔ PW B X 126 40 [some (.ref a), v1, v2, v3, v4, v5, v6, v7, v8, v9, v10, v11] (.ref a :: st) h Q := PW_step rfl rfl rfl rfl
theorem u_126_39n : PW B X 126 39 [some .null, v1, v2, v3, v4, v5, v6, v7, v8, v9, v10, v11] (st) h Q ↔ PW B X 126 40 [some .null, v1, v2, v3, v4, v5, v6, v7, v8, v9, v10, v11] (.null :: st) h Q := PW_step rfl rfl rfl rfl
theorem u_126_40 : PW B X 126 40 lv (.ref a :: st) h Q ↔ pm_O (pm_gf (pm_at B h a) 10 1) (fun v => PW B X 126 43 lv (v :: st) h Q) := PW_getf rfl rfl
theorem u_126_43 : PW B X 126 43 [v0, v1, v2, some (.int x), v4, v5, v6, v7, v8, v9, v10, v11] (st) h Q ↔ PW B X 126 44 [v0, v1, v2, some (.int x), v4, v5, v6, v7, v8, v9, v10, v11] (.int x :: st) h Q := PW_step rfl rfl rfl rfl
theorem u_126_44 : PW B X 126 44 lv (.int x :: .ref a :: st) h Q ↔ pm_O (pm_ldi 0 (pm_at B h a) x) (fun v => PW B X 126 45 lv (v :: st) h Q) := PW_iald rfl rfl
theorem u_126_45 : PW B X 126 45 lv (.int x :: st) h Q ↔ PW B X 126 46 lv (.long x.toInt64 :: st) h Q := PW_step rfl rfl rfl rfl
theorem u_126_46 : PW B X 126 46 lv (st) h Q ↔ PW B X 126 50 lv (st) h Q := PW_step rfl rfl rfl rfl
theorem u_126_49 : PW B X 126 49 lv (st) h Q ↔ PW B X 126 50 lv (.long 0 :: st) h Q := PW_step rfl rfl rfl rfl
theorem u_126_50 : PW B X 126 50 lv (.long p4 :: .long p3 :: .long p2 :: .long p1 :: .int q0 :: .ref a :: st) h Q ↔ (pm_w st ≤ 8 ∧ pm_io B h a 10 = true ∧ PW B X 127 0 [some (.ref a), some (.int q0), some (.long p1), none, some (.long p2), none, some (.long p3), none, some (.long p4), none] [] h (fun r h' => PW B X 126 53 lv (r.toList ++ st) h' Q)) := PW_cv (y := 127) (as := [.int q0, .long p1, .long p2, .long p3, .long p4]) (rest := st) rfl rfl rfl rfl rfl ⟨Nat.le_of_ble_eq_true rfl, Nat.le_of_ble_eq_true rfl, Nat.le_of_ble_eq_true rfl⟩
theorem u_126_53 : PW B X 126 53 [v0, v1, some (.int x), v3, v4, v5, v6, v7, v8, v9, v10, v11] (st) h Q ↔ PW B X 126 56 [v0, pm_c v1, some (.int (x + 1)), v3, v4, v5, v6, v7, v8, v9, v10, v11] (st) h Q := PW_step rfl rfl rfl rfl
theorem u_126_56 : PW B X 126 56 [some (.ref a), v1, v2, v3, v4, v5, v6, v7, v8, v9, v10, v11] (st) h Q ↔ PW B X 126 57 [some (.ref a), v1, v2, v3, v4, v5, v6, v7, v8, v9, v10, v11] (.ref a :: st) h Q := PW_step rfl rfl rfl rfl
theorem u_126_56n : PW B X 126 56 [some .null, v1, v2, v3, v4, v5, v6, v7, v8, v9, v10, v11] (st) h Q ↔ PW B X 126 57 [some .null, v1, v2, v3, v4, v5, v6, v7, v8, v9, v10, v11] (.null :: st) h Q := PW_step rfl rfl rfl rfl
theorem u_126_57 : PW B X 126 57 lv (.ref a :: st) h Q ↔ pm_O (pm_gf (pm_at B h a) 10 3) (fun v => PW B X 126 60 lv (v :: st) h Q) := PW_getf rfl rfl
theorem u_126_60 : PW B X 126 60 lv (st) h Q ↔ PW B X 126 61 lv (.int 2 :: st) h Q := PW_step rfl rfl rfl rfl
theorem u_126_61 : PW B X 126 61 [v0, v1, v2, some (.int x), v4, v5, v6, v7, v8, v9, v10, v11] (st) h Q ↔ PW B X 126 62 [v0, v1, v2, some (.int x), v4, v5, v6, v7, v8, v9, v10, v11] (.int x :: st) h Q := PW_step rfl rfl rfl rfl
theorem u_126_62 : PW B X 126 62 lv (.int y :: .int x :: st) h Q ↔ PW B X 126 63 lv (.int (x * y) :: st) h Q := PW_step rfl rfl rfl rfl
theorem u_126_63 : PW B X 126 63 lv (st) h Q ↔ PW B X 126 64 lv (.int 1 :: st) h Q := PW_step rfl rfl rfl rfl
theorem u_126_64 : PW B X 126 64 lv (.int y :: .int x :: st) h Q ↔ PW B X 126 65 lv (.int (x + y) :: st) h Q := PW_step rfl rfl rfl rfl
theorem u_126_65 : PW B X 126 65 lv (.int x :: .ref a :: st) h Q ↔ pm_O (pm_ldi 3 (pm_at B h a) x) (fun v => PW B X 126 66 lv (v :: st) h Q) := PW_bald rfl
theorem u_126_66 : PW B X 126 66 lv (.int x :: st) h Q ↔ (if x = 0 then PW B X 126 101 lv (st) h Q else PW B X 126 69 lv (st) h Q) := PW_if rfl rfl pm_c_eq
theorem u_126_69 : PW B X 126 69 [some (.ref a), v1, v2, v3, v4, v5, v6, v7, v8, v9, v10, v11] (st) h Q ↔ PW B X 126 70 [some (.ref a), v1, v2, v3, v4, v5, v6, v7, v8, v9, v10, v11] (.ref a :: st) h Q := PW_step rfl rfl rfl rfl
theorem u_126_69n : PW B X 126 69 [some .null, v1, v2, v3, v4, v5, v6, v7, v8, v9, v10, v11] (st) h Q ↔ PW B X 126 70 [some .null, v1, v2, v3, v4, v5, v6, v7, v8, v9, v10, v11] (.null :: st) h Q := PW_step rfl rfl rfl rfl
theorem u_126_70 : PW B X 126 70 [v0, v1, some (.int x), v3, v4, v5, v6, v7, v8, v9, v10, v11] (st) h Q ↔ PW B X 126 71 [v0, v1, some (.int x), v3, v4, v5, v6, v7, v8, v9, v10, v11] (.int x :: st) h Q := PW_step rfl rfl rfl rfl
theorem u_126_71 : PW B X 126 71 lv (st) h Q ↔ PW B X 126 72 lv (.long 0 :: st) h Q := PW_step rfl rfl rfl rfl
theorem u_126_72 : PW B X 126 72 lv (st) h Q ↔ PW B X 126 73 lv (.long 1 :: st) h Q := PW_step rfl rfl rfl rfl
theorem u_126_73 : PW B X 126 73 [some (.ref a), v1, v2, v3, v4, v5, v6, v7, v8, v9, v10, v11] (st) h Q ↔ PW B X 126 74 [some (.ref a), v1, v2, v3, v4, v5, v6, v7, v8, v9, v10, v11] (.ref a :: st) h Q := PW_step rfl rfl rfl rfl
theorem u_126_73n : PW B X 126 73 [some .null, v1, v2, v3, v4, v5, v6, v7, v8, v9, v10, v11] (st) h Q ↔ PW B X 126 74 [some .null, v1, v2, v3, v4, v5, v6, v7, v8, v9, v10, v11] (.null :: st) h Q := PW_step rfl rfl rfl rfl
theorem u_126_74 : PW B X 126 74 lv (.ref a :: st) h Q ↔ pm_O (pm_gf (pm_at B h a) 10 1) (fun v => PW B X 126 77 lv (v :: st) h Q) := PW_getf rfl rfl
theorem u_126_77 : PW B X 126 77 [v0, v1, v2, some (.int x), v4, v5, v6, v7, v8, v9, v10, v11] (st) h Q ↔ PW B X 126 78 [v0, v1, v2, some (.int x), v4, v5, v6, v7, v8, v9, v10, v11] (.int x :: st) h Q := PW_step rfl rfl rfl rfl
theorem u_126_78 : PW B X 126 78 lv (.int x :: .ref a :: st) h Q ↔ pm_O (pm_ldi 0 (pm_at B h a) x) (fun v => PW B X 126 79 lv (v :: st) h Q) := PW_iald rfl rfl
theorem u_126_79 : PW B X 126 79 lv (.int x :: st) h Q ↔ PW B X 126 80 lv (.long x.toInt64 :: st) h Q := PW_step rfl rfl rfl rfl
theorem u_126_80 : PW B X 126 80 [v0, some (.int x), v2, v3, v4, v5, v6, v7, v8, v9, v10, v11] (st) h Q ↔ PW B X 126 81 [v0, some (.int x), v2, v3, v4, v5, v6, v7, v8, v9, v10, v11] (.int x :: st) h Q := PW_step rfl rfl rfl rfl
theorem u_126_81 : PW B X 126 81 lv (.int x :: st) h Q ↔ (if x = 0 then PW B X 126 94 lv (st) h Q else PW B X 126 84 lv (st) h Q) := PW_if rfl rfl pm_c_eq
theorem u_126_84 : PW B X 126 84 [some (.ref a), v1, v2, v3, v4, v5, v6, v7, v8, v9, v10, v11] (st) h Q ↔ PW B X 126 85 [some (.ref a), v1, v2, v3, v4, v5, v6, v7, v8, v9, v10, v11] (.ref a :: st) h Q := PW_step rfl rfl rfl rfl
theorem u_126_84n : PW B X 126 84 [some .null, v1, v2, v3, v4, v5, v6, v7, v8, v9, v10, v11] (st) h Q ↔ PW B X 126 85 [some .null, v1, v2, v3, v4, v5, v6, v7, v8, v9, v10, v11] (.null :: st) h Q := PW_step rfl rfl rfl rfl
theorem u_126_85 : PW B X 126 85 lv (.ref a :: st) h Q ↔ pm_O (pm_gf (pm_at B h a) 10 2) (fun v => PW B X 126 88 lv (v :: st) h Q) := PW_getf rfl rfl
theorem u_126_88 : PW B X 126 88 [v0, v1, v2, some (.int x), v4, v5, v6, v7, v8, v9, v10, v11] (st) h Q ↔ PW B X 126 89 [v0, v1, v2, some (.int x), v4, v5, v6, v7, v8, v9, v10, v11] (.int x :: st) h Q := PW_step rfl rfl rfl rfl
theorem u_126_89 : PW B X 126 89 lv (.int x :: .ref a :: st) h Q ↔ pm_O (pm_ldi 0 (pm_at B h a) x) (fun v => PW B X 126 90 lv (v :: st) h Q) := PW_iald rfl rfl
theorem u_126_90 : PW B X 126 90 lv (.int x :: st) h Q ↔ PW B X 126 91 lv (.long x.toInt64 :: st) h Q := PW_step rfl rfl rfl rfl
theorem u_126_91 : PW B X 126 91 lv (st) h Q ↔ PW B X 126 95 lv (st) h Q := PW_step rfl rfl rfl rfl
theorem u_126_94 : PW B X 126 94 lv (st) h Q ↔ PW B X 126 95 lv (.long 0 :: st) h Q := PW_step rfl rfl rfl rfl
theorem u_126_95 : PW B X 126 95 lv (.long p4 :: .long p3 :: .long p2 :: .long p1 :: .int q0 :: .ref a :: st) h Q ↔ (pm_w st ≤ 8 ∧ pm_io B h a 10 = true ∧ PW B X 127 0 [some (.ref a), some (.int q0), some (.long p1), none, some (.long p2), none, some (.long p3), none, some (.long p4), none] [] h (fun r h' => PW B X 126 98 lv (r.toList ++ st) h' Q)) := PW_cv (y := 127) (as := [.int q0, .long p1, .long p2, .long p3, .long p4]) (rest := st) rfl rfl rfl rfl rfl ⟨Nat.le_of_ble_eq_true rfl, Nat.le_of_ble_eq_true rfl, Nat.le_of_ble_eq_true rfl⟩
theorem u_126_98 : PW B X 126 98 [v0, v1, some (.int x), v3, v4, v5, v6, v7, v8, v9, v10, v11] (st) h Q ↔ PW B X 126 101 [v0, pm_c v1, some (.int (x + 1)), v3, v4, v5, v6, v7, v8, v9, v10, v11] (st) h Q := PW_step rfl rfl rfl rfl
theorem u_126_101 : PW B X 126 101 [v0, v1, v2, some (.int x), v4, v5, v6, v7, v8, v9, v10, v11] (st) h Q ↔ PW B X 126 104 [v0, v1, pm_c v2, some (.int (x + 1)), v4, v5, v6, v7, v8, v9, v10, v11] (st) h Q := PW_step rfl rfl rfl rfl
theorem u_126_104 : PW B X 126 104 lv (st) h Q ↔ PW B X 126 4 lv (st) h Q := PW_step rfl rfl rfl rfl
theorem u_126_107 : PW B X 126 107 lv (st) h Q ↔ PW B X 126 108 lv (.int 0 :: st) h Q := PW_step rfl rfl rfl rfl
theorem u_126_108 : PW B X 126 108 [v0, v1, v2, v3, v4, v5, v6, v7, v8, v9, v10, v11] (.int x :: st) h Q ↔ PW B X 126 109 [v0, v1, pm_c v2, some (.int x), v4, v5, v6, v7, v8, v9, v10, v11] (st) h Q := PW_step rfl rfl rfl rfl
theorem u_126_109 : PW B X 126 109 lv (st) h Q ↔ PW B X 126 110 lv (.int 0 :: st) h Q := PW_step rfl rfl rfl rfl
theorem u_126_110 : PW B X 126 110 [v0, v1, v2, v3, v4, v5, v6, v7, v8, v9, v10, v11] (.int x :: st) h Q ↔ PW B X 126 112 [v0, v1, v2, pm_c v3, some (.int x), v5, v6, v7, v8, v9, v10, v11] (st) h Q := PW_step rfl rfl rfl rfl
theorem u_126_112 : PW B X 126 112 [v0, v1, v2, v3, some (.int x), v5, v6, v7, v8, v9, v10, v11] (st) h Q ↔ PW B X 126 114 [v0, v1, v2, v3, some (.int x), v5, v6, v7, v8, v9, v10, v11] (.int x :: st) h Q := PW_step rfl rfl rfl rfl
theorem u_126_114 : PW B X 126 114 lv (st) h Q ↔ PW B X 126 115 lv (.int 4 :: st) h Q := PW_step rfl rfl rfl rfl
theorem u_126_115 : PW B X 126 115 lv (.int y :: .int x :: st) h Q ↔ (if y ≤ x then PW B X 126 337 lv (st) h Q else PW B X 126 118 lv (st) h Q) := PW_icmp rfl rfl pm_c_ge
theorem u_126_118 : PW B X 126 118 [v0, v1, v2, some (.int x), v4, v5, v6, v7, v8, v9, v10, v11] (st) h Q ↔ PW B X 126 119 [v0, v1, v2, some (.int x), v4, v5, v6, v7, v8, v9, v10, v11] (.int x :: st) h Q := PW_step rfl rfl rfl rfl
theorem u_126_119 : PW B X 126 119 [v0, v1, v2, v3, v4, v5, v6, v7, v8, v9, v10, v11] (.int x :: st) h Q ↔ PW B X 126 121 [v0, v1, v2, v3, pm_c v4, some (.int x), v6, v7, v8, v9, v10, v11] (st) h Q := PW_step rfl rfl rfl rfl
theorem u_126_121 : PW B X 126 121 [v0, v1, v2, v3, v4, some (.int x), v6, v7, v8, v9, v10, v11] (st) h Q ↔ PW B X 126 123 [v0, v1, v2, v3, v4, some (.int x), v6, v7, v8, v9, v10, v11] (.int x :: st) h Q := PW_step rfl rfl rfl rfl
theorem u_126_123 : PW B X 126 123 [v0, v1, some (.int x), v3, v4, v5, v6, v7, v8, v9, v10, v11] (st) h Q ↔ PW B X 126 124 [v0, v1, some (.int x), v3, v4, v5, v6, v7, v8, v9, v10, v11] (.int x :: st) h Q := PW_step rfl rfl rfl rfl
theorem u_126_124 : PW B X 126 124 lv (.int y :: .int x :: st) h Q ↔ (if y ≤ x then PW B X 126 150 lv (st) h Q else PW B X 126 127 lv (st) h Q) := PW_icmp rfl rfl pm_c_ge
theorem u_126_127 : PW B X 126 127 [some (.ref a), v1, v2, v3, v4, v5, v6, v7, v8, v9, v10, v11] (st) h Q ↔ PW B X 126 128 [some (.ref a), v1, v2, v3, v4, v5, v6, v7, v8, v9, v10, v11] (.ref a :: st) h Q := PW_step rfl rfl rfl rfl
theorem u_126_127n : PW B X 126 127 [some .null, v1, v2, v3, v4, v5, v6, v7, v8, v9, v10, v11] (st) h Q ↔ PW B X 126 128 [some .null, v1, v2, v3, v4, v5, v6, v7, v8, v9, v10, v11] (.null :: st) h Q := PW_step rfl rfl rfl rfl
theorem u_126_128 : PW B X 126 128 lv (.ref a :: st) h Q ↔ pm_O (pm_gf (pm_at B h a) 10 34) (fun v => PW B X 126 131 lv (v :: st) h Q) := PW_getf rfl rfl
theorem u_126_131 : PW B X 126 131 lv (st) h Q ↔ PW B X 126 132 lv (.int 4 :: st) h Q := PW_step rfl rfl rfl rfl
theorem u_126_132 : PW B X 126 132 [v0, v1, v2, v3, v4, some (.int x), v6, v7, v8, v9, v10, v11] (st) h Q ↔ PW B X 126 134 [v0, v1, v2, v3, v4, some (.int x), v6, v7, v8, v9, v10, v11] (.int x :: st) h Q := PW_step rfl rfl rfl rfl
theorem u_126_134 : PW B X 126 134 lv (.int y :: .int x :: st) h Q ↔ PW B X 126 135 lv (.int (x * y) :: st) h Q := PW_step rfl rfl rfl rfl
theorem u_126_135 : PW B X 126 135 [v0, v1, v2, v3, some (.int x), v5, v6, v7, v8, v9, v10, v11] (st) h Q ↔ PW B X 126 137 [v0, v1, v2, v3, some (.int x), v5, v6, v7, v8, v9, v10, v11] (.int x :: st) h Q := PW_step rfl rfl rfl rfl
theorem u_126_137 : PW B X 126 137 lv (.int y :: .int x :: st) h Q ↔ PW B X 126 138 lv (.int (x + y) :: st) h Q := PW_step rfl rfl rfl rfl
theorem u_126_138 : PW B X 126 138 lv (.int x :: .ref a :: st) h Q ↔ pm_O (pm_ldl (pm_at B h a) x) (fun v => PW B X 126 139 lv (v :: st) h Q) := PW_lald rfl
theorem u_126_139 : PW B X 126 139 lv (st) h Q ↔ PW B X 126 140 lv (.long 0 :: st) h Q := PW_step rfl rfl rfl rfl
theorem u_126_140 : PW B X 126 140 lv (.long w :: .long z :: st) h Q ↔ PW B X 126 141 lv (.int (lg_cmp z w) :: st) h Q := PW_step rfl rfl rfl rfl
theorem u_126_141 : PW B X 126 141 lv (.int x :: st) h Q ↔ (if ¬ x = 0 then PW B X 126 150 lv (st) h Q else PW B X 126 144 lv (st) h Q) := PW_if rfl rfl pm_c_ne
theorem u_126_144 : PW B X 126 144 [v0, v1, v2, v3, v4, some (.int x), v6, v7, v8, v9, v10, v11] (st) h Q ↔ PW B X 126 147 [v0, v1, v2, v3, pm_c v4, some (.int (x + 1)), v6, v7, v8, v9, v10, v11] (st) h Q := PW_step rfl rfl rfl rfl
theorem u_126_147 : PW B X 126 147 lv (st) h Q ↔ PW B X 126 121 lv (st) h Q := PW_step rfl rfl rfl rfl
theorem u_126_150 : PW B X 126 150 [v0, v1, v2, v3, v4, some (.int x), v6, v7, v8, v9, v10, v11] (st) h Q ↔ PW B X 126 152 [v0, v1, v2, v3, v4, some (.int x), v6, v7, v8, v9, v10, v11] (.int x :: st) h Q := PW_step rfl rfl rfl rfl
theorem u_126_152 : PW B X 126 152 [v0, v1, some (.int x), v3, v4, v5, v6, v7, v8, v9, v10, v11] (st) h Q ↔ PW B X 126 153 [v0, v1, some (.int x), v3, v4, v5, v6, v7, v8, v9, v10, v11] (.int x :: st) h Q := PW_step rfl rfl rfl rfl
theorem u_126_153 : PW B X 126 153 lv (.int y :: .int x :: st) h Q ↔ (if y ≤ x then PW B X 126 331 lv (st) h Q else PW B X 126 156 lv (st) h Q) := PW_icmp rfl rfl pm_c_ge
theorem u_126_156 : PW B X 126 156 lv (st) h Q ↔ PW B X 126 157 lv (.int 0 :: st) h Q := PW_step rfl rfl rfl rfl
theorem u_126_157 : PW B X 126 157 [v0, v1, v2, v3, v4, v5, v6, v7, v8, v9, v10, v11] (.int x :: st) h Q ↔ PW B X 126 159 [v0, v1, v2, v3, v4, pm_c v5, some (.int x), v7, v8, v9, v10, v11] (st) h Q := PW_step rfl rfl rfl rfl
theorem u_126_159 : PW B X 126 159 [v0, v1, v2, v3, v4, v5, some (.int x), v7, v8, v9, v10, v11] (st) h Q ↔ PW B X 126 161 [v0, v1, v2, v3, v4, v5, some (.int x), v7, v8, v9, v10, v11] (.int x :: st) h Q := PW_step rfl rfl rfl rfl
theorem u_126_161 : PW B X 126 161 lv (st) h Q ↔ PW B X 126 162 lv (.int 4 :: st) h Q := PW_step rfl rfl rfl rfl
theorem u_126_162 : PW B X 126 162 lv (.int y :: .int x :: st) h Q ↔ (if y ≤ x then PW B X 126 221 lv (st) h Q else PW B X 126 165 lv (st) h Q) := PW_icmp rfl rfl pm_c_ge
theorem u_126_165 : PW B X 126 165 [some (.ref a), v1, v2, v3, v4, v5, v6, v7, v8, v9, v10, v11] (st) h Q ↔ PW B X 126 166 [some (.ref a), v1, v2, v3, v4, v5, v6, v7, v8, v9, v10, v11] (.ref a :: st) h Q := PW_step rfl rfl rfl rfl
theorem u_126_165n : PW B X 126 165 [some .null, v1, v2, v3, v4, v5, v6, v7, v8, v9, v10, v11] (st) h Q ↔ PW B X 126 166 [some .null, v1, v2, v3, v4, v5, v6, v7, v8, v9, v10, v11] (.null :: st) h Q := PW_step rfl rfl rfl rfl
theorem u_126_166 : PW B X 126 166 lv (.ref a :: st) h Q ↔ pm_O (pm_gf (pm_at B h a) 10 34) (fun v => PW B X 126 169 lv (v :: st) h Q) := PW_getf rfl rfl
theorem u_126_169 : PW B X 126 169 lv (st) h Q ↔ PW B X 126 170 lv (.int 4 :: st) h Q := PW_step rfl rfl rfl rfl
theorem u_126_170 : PW B X 126 170 [v0, v1, v2, v3, v4, some (.int x), v6, v7, v8, v9, v10, v11] (st) h Q ↔ PW B X 126 172 [v0, v1, v2, v3, v4, some (.int x), v6, v7, v8, v9, v10, v11] (.int x :: st) h Q := PW_step rfl rfl rfl rfl
theorem u_126_172 : PW B X 126 172 lv (.int y :: .int x :: st) h Q ↔ PW B X 126 173 lv (.int (x * y) :: st) h Q := PW_step rfl rfl rfl rfl
theorem u_126_173 : PW B X 126 173 [v0, v1, v2, v3, v4, v5, some (.int x), v7, v8, v9, v10, v11] (st) h Q ↔ PW B X 126 175 [v0, v1, v2, v3, v4, v5, some (.int x), v7, v8, v9, v10, v11] (.int x :: st) h Q := PW_step rfl rfl rfl rfl
theorem u_126_175 : PW B X 126 175 lv (.int y :: .int x :: st) h Q ↔ PW B X 126 176 lv (.int (x + y) :: st) h Q := PW_step rfl rfl rfl rfl
theorem u_126_176 : PW B X 126 176 lv (.int x :: .ref a :: st) h Q ↔ pm_O (pm_ldl (pm_at B h a) x) (fun v => PW B X 126 177 lv (v :: st) h Q) := PW_lald rfl
theorem u_126_177 : PW B X 126 177 [v0, v1, v2, v3, v4, v5, v6, v7, v8, v9, v10, v11] (.long z :: st) h Q ↔ PW B X 126 179 [v0, v1, v2, v3, v4, v5, pm_c v6, some (.long z), none, v9, v10, v11] (st) h Q := PW_step rfl rfl rfl rfl
theorem u_126_179 : PW B X 126 179 [some (.ref a), v1, v2, v3, v4, v5, v6, v7, v8, v9, v10, v11] (st) h Q ↔ PW B X 126 180 [some (.ref a), v1, v2, v3, v4, v5, v6, v7, v8, v9, v10, v11] (.ref a :: st) h Q := PW_step rfl rfl rfl rfl
theorem u_126_179n : PW B X 126 179 [some .null, v1, v2, v3, v4, v5, v6, v7, v8, v9, v10, v11] (st) h Q ↔ PW B X 126 180 [some .null, v1, v2, v3, v4, v5, v6, v7, v8, v9, v10, v11] (.null :: st) h Q := PW_step rfl rfl rfl rfl
theorem u_126_180 : PW B X 126 180 lv (.ref a :: st) h Q ↔ pm_O (pm_gf (pm_at B h a) 10 34) (fun v => PW B X 126 183 lv (v :: st) h Q) := PW_getf rfl rfl
theorem u_126_183 : PW B X 126 183 lv (st) h Q ↔ PW B X 126 184 lv (.int 4 :: st) h Q := PW_step rfl rfl rfl rfl
theorem u_126_184 : PW B X 126 184 [v0, v1, v2, v3, v4, some (.int x), v6, v7, v8, v9, v10, v11] (st) h Q ↔ PW B X 126 186 [v0, v1, v2, v3, v4, some (.int x), v6, v7, v8, v9, v10, v11] (.int x :: st) h Q := PW_step rfl rfl rfl rfl
theorem u_126_186 : PW B X 126 186 lv (.int y :: .int x :: st) h Q ↔ PW B X 126 187 lv (.int (x * y) :: st) h Q := PW_step rfl rfl rfl rfl
theorem u_126_187 : PW B X 126 187 [v0, v1, v2, v3, v4, v5, some (.int x), v7, v8, v9, v10, v11] (st) h Q ↔ PW B X 126 189 [v0, v1, v2, v3, v4, v5, some (.int x), v7, v8, v9, v10, v11] (.int x :: st) h Q := PW_step rfl rfl rfl rfl
theorem u_126_189 : PW B X 126 189 lv (.int y :: .int x :: st) h Q ↔ PW B X 126 190 lv (.int (x + y) :: st) h Q := PW_step rfl rfl rfl rfl
theorem u_126_190 : PW B X 126 190 [some (.ref a), v1, v2, v3, v4, v5, v6, v7, v8, v9, v10, v11] (st) h Q ↔ PW B X 126 191 [some (.ref a), v1, v2, v3, v4, v5, v6, v7, v8, v9, v10, v11] (.ref a :: st) h Q := PW_step rfl rfl rfl rfl
theorem u_126_190n : PW B X 126 190 [some .null, v1, v2, v3, v4, v5, v6, v7, v8, v9, v10, v11] (st) h Q ↔ PW B X 126 191 [some .null, v1, v2, v3, v4, v5, v6, v7, v8, v9, v10, v11] (.null :: st) h Q := PW_step rfl rfl rfl rfl
theorem u_126_191 : PW B X 126 191 lv (.ref a :: st) h Q ↔ pm_O (pm_gf (pm_at B h a) 10 34) (fun v => PW B X 126 194 lv (v :: st) h Q) := PW_getf rfl rfl
theorem u_126_194 : PW B X 126 194 lv (st) h Q ↔ PW B X 126 195 lv (.int 4 :: st) h Q := PW_step rfl rfl rfl rfl
theorem u_126_195 : PW B X 126 195 [v0, v1, v2, some (.int x), v4, v5, v6, v7, v8, v9, v10, v11] (st) h Q ↔ PW B X 126 196 [v0, v1, v2, some (.int x), v4, v5, v6, v7, v8, v9, v10, v11] (.int x :: st) h Q := PW_step rfl rfl rfl rfl
theorem u_126_196 : PW B X 126 196 lv (.int y :: .int x :: st) h Q ↔ PW B X 126 197 lv (.int (x * y) :: st) h Q := PW_step rfl rfl rfl rfl
theorem u_126_197 : PW B X 126 197 [v0, v1, v2, v3, v4, v5, some (.int x), v7, v8, v9, v10, v11] (st) h Q ↔ PW B X 126 199 [v0, v1, v2, v3, v4, v5, some (.int x), v7, v8, v9, v10, v11] (.int x :: st) h Q := PW_step rfl rfl rfl rfl
theorem u_126_199 : PW B X 126 199 lv (.int y :: .int x :: st) h Q ↔ PW B X 126 200 lv (.int (x + y) :: st) h Q := PW_step rfl rfl rfl rfl
theorem u_126_200 : PW B X 126 200 lv (.int x :: .ref a :: st) h Q ↔ pm_O (pm_ldl (pm_at B h a) x) (fun v => PW B X 126 201 lv (v :: st) h Q) := PW_lald rfl
theorem u_126_201 : PW B X 126 201 lv (.long z :: .int x :: .ref a :: st) h Q ↔ pm_O (pm_stl (pm_at B h a) x z) (fun e => PW B X 126 202 lv (st) (pm_set B h a e) Q) := PW_last rfl
theorem u_126_202 : PW B X 126 202 [some (.ref a), v1, v2, v3, v4, v5, v6, v7, v8, v9, v10, v11] (st) h Q ↔ PW B X 126 203 [some (.ref a), v1, v2, v3, v4, v5, v6, v7, v8, v9, v10, v11] (.ref a :: st) h Q := PW_step rfl rfl rfl rfl
theorem u_126_202n : PW B X 126 202 [some .null, v1, v2, v3, v4, v5, v6, v7, v8, v9, v10, v11] (st) h Q ↔ PW B X 126 203 [some .null, v1, v2, v3, v4, v5, v6, v7, v8, v9, v10, v11] (.null :: st) h Q := PW_step rfl rfl rfl rfl
theorem u_126_203 : PW B X 126 203 lv (.ref a :: st) h Q ↔ pm_O (pm_gf (pm_at B h a) 10 34) (fun v => PW B X 126 206 lv (v :: st) h Q) := PW_getf rfl rfl
theorem u_126_206 : PW B X 126 206 lv (st) h Q ↔ PW B X 126 207 lv (.int 4 :: st) h Q := PW_step rfl rfl rfl rfl
theorem u_126_207 : PW B X 126 207 [v0, v1, v2, some (.int x), v4, v5, v6, v7, v8, v9, v10, v11] (st) h Q ↔ PW B X 126 208 [v0, v1, v2, some (.int x), v4, v5, v6, v7, v8, v9, v10, v11] (.int x :: st) h Q := PW_step rfl rfl rfl rfl
theorem u_126_208 : PW B X 126 208 lv (.int y :: .int x :: st) h Q ↔ PW B X 126 209 lv (.int (x * y) :: st) h Q := PW_step rfl rfl rfl rfl
theorem u_126_209 : PW B X 126 209 [v0, v1, v2, v3, v4, v5, some (.int x), v7, v8, v9, v10, v11] (st) h Q ↔ PW B X 126 211 [v0, v1, v2, v3, v4, v5, some (.int x), v7, v8, v9, v10, v11] (.int x :: st) h Q := PW_step rfl rfl rfl rfl
theorem u_126_211 : PW B X 126 211 lv (.int y :: .int x :: st) h Q ↔ PW B X 126 212 lv (.int (x + y) :: st) h Q := PW_step rfl rfl rfl rfl
theorem u_126_212 : PW B X 126 212 [v0, v1, v2, v3, v4, v5, v6, some (.long z), v8, v9, v10, v11] (st) h Q ↔ PW B X 126 214 [v0, v1, v2, v3, v4, v5, v6, some (.long z), v8, v9, v10, v11] (.long z :: st) h Q := PW_step rfl rfl rfl rfl
theorem u_126_214 : PW B X 126 214 lv (.long z :: .int x :: .ref a :: st) h Q ↔ pm_O (pm_stl (pm_at B h a) x z) (fun e => PW B X 126 215 lv (st) (pm_set B h a e) Q) := PW_last rfl
theorem u_126_215 : PW B X 126 215 [v0, v1, v2, v3, v4, v5, some (.int x), v7, v8, v9, v10, v11] (st) h Q ↔ PW B X 126 218 [v0, v1, v2, v3, v4, pm_c v5, some (.int (x + 1)), v7, v8, v9, v10, v11] (st) h Q := PW_step rfl rfl rfl rfl
theorem u_126_218 : PW B X 126 218 lv (st) h Q ↔ PW B X 126 159 lv (st) h Q := PW_step rfl rfl rfl rfl
theorem u_126_221 : PW B X 126 221 [v0, v1, v2, some (.int x), v4, v5, v6, v7, v8, v9, v10, v11] (st) h Q ↔ PW B X 126 222 [v0, v1, v2, some (.int x), v4, v5, v6, v7, v8, v9, v10, v11] (.int x :: st) h Q := PW_step rfl rfl rfl rfl
theorem u_126_222 : PW B X 126 222 lv (st) h Q ↔ PW B X 126 223 lv (.int 1 :: st) h Q := PW_step rfl rfl rfl rfl
theorem u_126_223 : PW B X 126 223 lv (.int y :: .int x :: st) h Q ↔ PW B X 126 224 lv (.int (x + y) :: st) h Q := PW_step rfl rfl rfl rfl
theorem u_126_224 : PW B X 126 224 [v0, v1, v2, v3, v4, v5, v6, v7, v8, v9, v10, v11] (.int x :: st) h Q ↔ PW B X 126 226 [v0, v1, v2, v3, v4, pm_c v5, some (.int x), v7, v8, v9, v10, v11] (st) h Q := PW_step rfl rfl rfl rfl
theorem u_126_226 : PW B X 126 226 [v0, v1, v2, v3, v4, v5, some (.int x), v7, v8, v9, v10, v11] (st) h Q ↔ PW B X 126 228 [v0, v1, v2, v3, v4, v5, some (.int x), v7, v8, v9, v10, v11] (.int x :: st) h Q := PW_step rfl rfl rfl rfl
theorem u_126_228 : PW B X 126 228 [v0, v1, some (.int x), v3, v4, v5, v6, v7, v8, v9, v10, v11] (st) h Q ↔ PW B X 126 229 [v0, v1, some (.int x), v3, v4, v5, v6, v7, v8, v9, v10, v11] (.int x :: st) h Q := PW_step rfl rfl rfl rfl
theorem u_126_229 : PW B X 126 229 lv (.int y :: .int x :: st) h Q ↔ (if y ≤ x then PW B X 126 328 lv (st) h Q else PW B X 126 232 lv (st) h Q) := PW_icmp rfl rfl pm_c_ge
theorem u_126_232 : PW B X 126 232 [some (.ref a), v1, v2, v3, v4, v5, v6, v7, v8, v9, v10, v11] (st) h Q ↔ PW B X 126 233 [some (.ref a), v1, v2, v3, v4, v5, v6, v7, v8, v9, v10, v11] (.ref a :: st) h Q := PW_step rfl rfl rfl rfl
theorem u_126_232n : PW B X 126 232 [some .null, v1, v2, v3, v4, v5, v6, v7, v8, v9, v10, v11] (st) h Q ↔ PW B X 126 233 [some .null, v1, v2, v3, v4, v5, v6, v7, v8, v9, v10, v11] (.null :: st) h Q := PW_step rfl rfl rfl rfl
theorem u_126_233 : PW B X 126 233 lv (.ref a :: st) h Q ↔ pm_O (pm_gf (pm_at B h a) 10 34) (fun v => PW B X 126 236 lv (v :: st) h Q) := PW_getf rfl rfl
theorem u_126_236 : PW B X 126 236 lv (st) h Q ↔ PW B X 126 237 lv (.int 4 :: st) h Q := PW_step rfl rfl rfl rfl
theorem u_126_237 : PW B X 126 237 [v0, v1, v2, some (.int x), v4, v5, v6, v7, v8, v9, v10, v11] (st) h Q ↔ PW B X 126 238 [v0, v1, v2, some (.int x), v4, v5, v6, v7, v8, v9, v10, v11] (.int x :: st) h Q := PW_step rfl rfl rfl rfl
theorem u_126_238 : PW B X 126 238 lv (.int y :: .int x :: st) h Q ↔ PW B X 126 239 lv (.int (x * y) :: st) h Q := PW_step rfl rfl rfl rfl
theorem u_126_239 : PW B X 126 239 [v0, v1, v2, v3, some (.int x), v5, v6, v7, v8, v9, v10, v11] (st) h Q ↔ PW B X 126 241 [v0, v1, v2, v3, some (.int x), v5, v6, v7, v8, v9, v10, v11] (.int x :: st) h Q := PW_step rfl rfl rfl rfl
theorem u_126_241 : PW B X 126 241 lv (.int y :: .int x :: st) h Q ↔ PW B X 126 242 lv (.int (x + y) :: st) h Q := PW_step rfl rfl rfl rfl
theorem u_126_242 : PW B X 126 242 lv (.int x :: .ref a :: st) h Q ↔ pm_O (pm_ldl (pm_at B h a) x) (fun v => PW B X 126 243 lv (v :: st) h Q) := PW_lald rfl
theorem u_126_243 : PW B X 126 243 [v0, v1, v2, v3, v4, v5, v6, v7, v8, v9, v10, v11] (.long z :: st) h Q ↔ PW B X 126 245 [v0, v1, v2, v3, v4, v5, pm_c v6, some (.long z), none, v9, v10, v11] (st) h Q := PW_step rfl rfl rfl rfl
theorem u_126_245 : PW B X 126 245 [some (.ref a), v1, v2, v3, v4, v5, v6, v7, v8, v9, v10, v11] (st) h Q ↔ PW B X 126 246 [some (.ref a), v1, v2, v3, v4, v5, v6, v7, v8, v9, v10, v11] (.ref a :: st) h Q := PW_step rfl rfl rfl rfl
theorem u_126_245n : PW B X 126 245 [some .null, v1, v2, v3, v4, v5, v6, v7, v8, v9, v10, v11] (st) h Q ↔ PW B X 126 246 [some .null, v1, v2, v3, v4, v5, v6, v7, v8, v9, v10, v11] (.null :: st) h Q := PW_step rfl rfl rfl rfl
theorem u_126_246 : PW B X 126 246 lv (.ref a :: st) h Q ↔ pm_O (pm_gf (pm_at B h a) 10 34) (fun v => PW B X 126 249 lv (v :: st) h Q) := PW_getf rfl rfl
theorem u_126_249 : PW B X 126 249 lv (st) h Q ↔ PW B X 126 250 lv (.int 4 :: st) h Q := PW_step rfl rfl rfl rfl
theorem u_126_250 : PW B X 126 250 [v0, v1, v2, v3, v4, v5, some (.int x), v7, v8, v9, v10, v11] (st) h Q ↔ PW B X 126 252 [v0, v1, v2, v3, v4, v5, some (.int x), v7, v8, v9, v10, v11] (.int x :: st) h Q := PW_step rfl rfl rfl rfl
theorem u_126_252 : PW B X 126 252 lv (.int y :: .int x :: st) h Q ↔ PW B X 126 253 lv (.int (x * y) :: st) h Q := PW_step rfl rfl rfl rfl
theorem u_126_253 : PW B X 126 253 [v0, v1, v2, v3, some (.int x), v5, v6, v7, v8, v9, v10, v11] (st) h Q ↔ PW B X 126 255 [v0, v1, v2, v3, some (.int x), v5, v6, v7, v8, v9, v10, v11] (.int x :: st) h Q := PW_step rfl rfl rfl rfl
theorem u_126_255 : PW B X 126 255 lv (.int y :: .int x :: st) h Q ↔ PW B X 126 256 lv (.int (x + y) :: st) h Q := PW_step rfl rfl rfl rfl
theorem u_126_256 : PW B X 126 256 lv (.int x :: .ref a :: st) h Q ↔ pm_O (pm_ldl (pm_at B h a) x) (fun v => PW B X 126 257 lv (v :: st) h Q) := PW_lald rfl
theorem u_126_257 : PW B X 126 257 [v0, v1, v2, v3, v4, v5, v6, v7, v8, v9, v10, v11] (.long z :: st) h Q ↔ PW B X 126 259 [v0, v1, v2, v3, v4, v5, v6, v7, pm_c v8, some (.long z), none, v11] (st) h Q := PW_step rfl rfl rfl rfl
theorem u_126_259 : PW B X 126 259 lv (st) h Q ↔ PW B X 126 260 lv (.int 0 :: st) h Q := PW_step rfl rfl rfl rfl
theorem u_126_260 : PW B X 126 260 [v0, v1, v2, v3, v4, v5, v6, v7, v8, v9, v10, v11] (.int x :: st) h Q ↔ PW B X 126 262 [v0, v1, v2, v3, v4, v5, v6, v7, v8, v9, pm_c v10, some (.int x)] (st) h Q := PW_step rfl rfl rfl rfl
theorem u_126_262 : PW B X 126 262 [v0, v1, v2, v3, v4, v5, v6, v7, v8, v9, v10, some (.int x)] (st) h Q ↔ PW B X 126 264 [v0, v1, v2, v3, v4, v5, v6, v7, v8, v9, v10, some (.int x)] (.int x :: st) h Q := PW_step rfl rfl rfl rfl
theorem u_126_264 : PW B X 126 264 lv (st) h Q ↔ PW B X 126 265 lv (.int 4 :: st) h Q := PW_step rfl rfl rfl rfl
theorem u_126_265 : PW B X 126 265 lv (.int y :: .int x :: st) h Q ↔ (if y ≤ x then PW B X 126 316 lv (st) h Q else PW B X 126 268 lv (st) h Q) := PW_icmp rfl rfl pm_c_ge
theorem u_126_268 : PW B X 126 268 [some (.ref a), v1, v2, v3, v4, v5, v6, v7, v8, v9, v10, v11] (st) h Q ↔ PW B X 126 269 [some (.ref a), v1, v2, v3, v4, v5, v6, v7, v8, v9, v10, v11] (.ref a :: st) h Q := PW_step rfl rfl rfl rfl
theorem u_126_268n : PW B X 126 268 [some .null, v1, v2, v3, v4, v5, v6, v7, v8, v9, v10, v11] (st) h Q ↔ PW B X 126 269 [some .null, v1, v2, v3, v4, v5, v6, v7, v8, v9, v10, v11] (.null :: st) h Q := PW_step rfl rfl rfl rfl
theorem u_126_269 : PW B X 126 269 lv (.ref a :: st) h Q ↔ pm_O (pm_gf (pm_at B h a) 10 34) (fun v => PW B X 126 272 lv (v :: st) h Q) := PW_getf rfl rfl
theorem u_126_272 : PW B X 126 272 lv (st) h Q ↔ PW B X 126 273 lv (.int 4 :: st) h Q := PW_step rfl rfl rfl rfl
theorem u_126_273 : PW B X 126 273 [v0, v1, v2, v3, v4, v5, some (.int x), v7, v8, v9, v10, v11] (st) h Q ↔ PW B X 126 275 [v0, v1, v2, v3, v4, v5, some (.int x), v7, v8, v9, v10, v11] (.int x :: st) h Q := PW_step rfl rfl rfl rfl
theorem u_126_275 : PW B X 126 275 lv (.int y :: .int x :: st) h Q ↔ PW B X 126 276 lv (.int (x * y) :: st) h Q := PW_step rfl rfl rfl rfl
theorem u_126_276 : PW B X 126 276 [v0, v1, v2, v3, v4, v5, v6, v7, v8, v9, v10, some (.int x)] (st) h Q ↔ PW B X 126 278 [v0, v1, v2, v3, v4, v5, v6, v7, v8, v9, v10, some (.int x)] (.int x :: st) h Q := PW_step rfl rfl rfl rfl
theorem u_126_278 : PW B X 126 278 lv (.int y :: .int x :: st) h Q ↔ PW B X 126 279 lv (.int (x + y) :: st) h Q := PW_step rfl rfl rfl rfl
theorem u_126_279 : PW B X 126 279 [some (.ref a), v1, v2, v3, v4, v5, v6, v7, v8, v9, v10, v11] (st) h Q ↔ PW B X 126 280 [some (.ref a), v1, v2, v3, v4, v5, v6, v7, v8, v9, v10, v11] (.ref a :: st) h Q := PW_step rfl rfl rfl rfl
theorem u_126_279n : PW B X 126 279 [some .null, v1, v2, v3, v4, v5, v6, v7, v8, v9, v10, v11] (st) h Q ↔ PW B X 126 280 [some .null, v1, v2, v3, v4, v5, v6, v7, v8, v9, v10, v11] (.null :: st) h Q := PW_step rfl rfl rfl rfl
theorem u_126_280 : PW B X 126 280 lv (.ref a :: st) h Q ↔ pm_O (pm_gf (pm_at B h a) 10 34) (fun v => PW B X 126 283 lv (v :: st) h Q) := PW_getf rfl rfl
theorem u_126_283 : PW B X 126 283 lv (st) h Q ↔ PW B X 126 284 lv (.int 4 :: st) h Q := PW_step rfl rfl rfl rfl
theorem u_126_284 : PW B X 126 284 [v0, v1, v2, v3, v4, v5, some (.int x), v7, v8, v9, v10, v11] (st) h Q ↔ PW B X 126 286 [v0, v1, v2, v3, v4, v5, some (.int x), v7, v8, v9, v10, v11] (.int x :: st) h Q := PW_step rfl rfl rfl rfl
theorem u_126_286 : PW B X 126 286 lv (.int y :: .int x :: st) h Q ↔ PW B X 126 287 lv (.int (x * y) :: st) h Q := PW_step rfl rfl rfl rfl
theorem u_126_287 : PW B X 126 287 [v0, v1, v2, v3, v4, v5, v6, v7, v8, v9, v10, some (.int x)] (st) h Q ↔ PW B X 126 289 [v0, v1, v2, v3, v4, v5, v6, v7, v8, v9, v10, some (.int x)] (.int x :: st) h Q := PW_step rfl rfl rfl rfl
theorem u_126_289 : PW B X 126 289 lv (.int y :: .int x :: st) h Q ↔ PW B X 126 290 lv (.int (x + y) :: st) h Q := PW_step rfl rfl rfl rfl
theorem u_126_290 : PW B X 126 290 lv (.int x :: .ref a :: st) h Q ↔ pm_O (pm_ldl (pm_at B h a) x) (fun v => PW B X 126 291 lv (v :: st) h Q) := PW_lald rfl
theorem u_126_291 : PW B X 126 291 [v0, v1, v2, v3, v4, v5, v6, some (.long z), v8, v9, v10, v11] (st) h Q ↔ PW B X 126 293 [v0, v1, v2, v3, v4, v5, v6, some (.long z), v8, v9, v10, v11] (.long z :: st) h Q := PW_step rfl rfl rfl rfl
theorem u_126_293 : PW B X 126 293 lv (.long w :: .long z :: st) h Q ↔ PW B X 126 294 lv (.long (z * w) :: st) h Q := PW_step rfl rfl rfl rfl
theorem u_126_294 : PW B X 126 294 [some (.ref a), v1, v2, v3, v4, v5, v6, v7, v8, v9, v10, v11] (st) h Q ↔ PW B X 126 295 [some (.ref a), v1, v2, v3, v4, v5, v6, v7, v8, v9, v10, v11] (.ref a :: st) h Q := PW_step rfl rfl rfl rfl
theorem u_126_294n : PW B X 126 294 [some .null, v1, v2, v3, v4, v5, v6, v7, v8, v9, v10, v11] (st) h Q ↔ PW B X 126 295 [some .null, v1, v2, v3, v4, v5, v6, v7, v8, v9, v10, v11] (.null :: st) h Q := PW_step rfl rfl rfl rfl
theorem u_126_295 : PW B X 126 295 lv (.ref a :: st) h Q ↔ pm_O (pm_gf (pm_at B h a) 10 34) (fun v => PW B X 126 298 lv (v :: st) h Q) := PW_getf rfl rfl
theorem u_126_298 : PW B X 126 298 lv (st) h Q ↔ PW B X 126 299 lv (.int 4 :: st) h Q := PW_step rfl rfl rfl rfl
theorem u_126_299 : PW B X 126 299 [v0, v1, v2, some (.int x), v4, v5, v6, v7, v8, v9, v10, v11] (st) h Q ↔ PW B X 126 300 [v0, v1, v2, some (.int x), v4, v5, v6, v7, v8, v9, v10, v11] (.int x :: st) h Q := PW_step rfl rfl rfl rfl
theorem u_126_300 : PW B X 126 300 lv (.int y :: .int x :: st) h Q ↔ PW B X 126 301 lv (.int (x * y) :: st) h Q := PW_step rfl rfl rfl rfl
theorem u_126_301 : PW B X 126 301 [v0, v1, v2, v3, v4, v5, v6, v7, v8, v9, v10, some (.int x)] (st) h Q ↔ PW B X 126 303 [v0, v1, v2, v3, v4, v5, v6, v7, v8, v9, v10, some (.int x)] (.int x :: st) h Q := PW_step rfl rfl rfl rfl
theorem u_126_303 : PW B X 126 303 lv (.int y :: .int x :: st) h Q ↔ PW B X 126 304 lv (.int (x + y) :: st) h Q := PW_step rfl rfl rfl rfl
theorem u_126_304 : PW B X 126 304 lv (.int x :: .ref a :: st) h Q ↔ pm_O (pm_ldl (pm_at B h a) x) (fun v => PW B X 126 305 lv (v :: st) h Q) := PW_lald rfl
theorem u_126_305 : PW B X 126 305 [v0, v1, v2, v3, v4, v5, v6, v7, v8, some (.long z), v10, v11] (st) h Q ↔ PW B X 126 307 [v0, v1, v2, v3, v4, v5, v6, v7, v8, some (.long z), v10, v11] (.long z :: st) h Q := PW_step rfl rfl rfl rfl
theorem u_126_307 : PW B X 126 307 lv (.long w :: .long z :: st) h Q ↔ PW B X 126 308 lv (.long (z * w) :: st) h Q := PW_step rfl rfl rfl rfl
theorem u_126_308 : PW B X 126 308 lv (.long w :: .long z :: st) h Q ↔ PW B X 126 309 lv (.long (z - w) :: st) h Q := PW_step rfl rfl rfl rfl
theorem u_126_309 : PW B X 126 309 lv (.long z :: .int x :: .ref a :: st) h Q ↔ pm_O (pm_stl (pm_at B h a) x z) (fun e => PW B X 126 310 lv (st) (pm_set B h a e) Q) := PW_last rfl
theorem u_126_310 : PW B X 126 310 [v0, v1, v2, v3, v4, v5, v6, v7, v8, v9, v10, some (.int x)] (st) h Q ↔ PW B X 126 313 [v0, v1, v2, v3, v4, v5, v6, v7, v8, v9, pm_c v10, some (.int (x + 1))] (st) h Q := PW_step rfl rfl rfl rfl
theorem u_126_313 : PW B X 126 313 lv (st) h Q ↔ PW B X 126 262 lv (st) h Q := PW_step rfl rfl rfl rfl
theorem u_126_316 : PW B X 126 316 [some (.ref a), v1, v2, v3, v4, v5, v6, v7, v8, v9, v10, v11] (st) h Q ↔ PW B X 126 317 [some (.ref a), v1, v2, v3, v4, v5, v6, v7, v8, v9, v10, v11] (.ref a :: st) h Q := PW_step rfl rfl rfl rfl
theorem u_126_316n : PW B X 126 316 [some .null, v1, v2, v3, v4, v5, v6, v7, v8, v9, v10, v11] (st) h Q ↔ PW B X 126 317 [some .null, v1, v2, v3, v4, v5, v6, v7, v8, v9, v10, v11] (.null :: st) h Q := PW_step rfl rfl rfl rfl
theorem u_126_317 : PW B X 126 317 [v0, v1, v2, v3, v4, v5, some (.int x), v7, v8, v9, v10, v11] (st) h Q ↔ PW B X 126 319 [v0, v1, v2, v3, v4, v5, some (.int x), v7, v8, v9, v10, v11] (.int x :: st) h Q := PW_step rfl rfl rfl rfl
theorem u_126_319 : PW B X 126 319 lv (.int q0 :: .ref a :: st) h Q ↔ (pm_w st ≤ 8 ∧ pm_io B h a 10 = true ∧ PW B X 128 0 [some (.ref a), some (.int q0), none, none, none] [] h (fun r h' => PW B X 126 322 lv (r.toList ++ st) h' Q)) := PW_cv (y := 128) (as := [.int q0]) (rest := st) rfl rfl rfl rfl rfl ⟨Nat.le_of_ble_eq_true rfl, Nat.le_of_ble_eq_true rfl, Nat.le_of_ble_eq_true rfl⟩
theorem u_126_322 : PW B X 126 322 [v0, v1, v2, v3, v4, v5, some (.int x), v7, v8, v9, v10, v11] (st) h Q ↔ PW B X 126 325 [v0, v1, v2, v3, v4, pm_c v5, some (.int (x + 1)), v7, v8, v9, v10, v11] (st) h Q := PW_step rfl rfl rfl rfl
theorem u_126_325 : PW B X 126 325 lv (st) h Q ↔ PW B X 126 226 lv (st) h Q := PW_step rfl rfl rfl rfl
theorem u_126_328 : PW B X 126 328 [v0, v1, v2, some (.int x), v4, v5, v6, v7, v8, v9, v10, v11] (st) h Q ↔ PW B X 126 331 [v0, v1, pm_c v2, some (.int (x + 1)), v4, v5, v6, v7, v8, v9, v10, v11] (st) h Q := PW_step rfl rfl rfl rfl
theorem u_126_331 : PW B X 126 331 [v0, v1, v2, v3, some (.int x), v5, v6, v7, v8, v9, v10, v11] (st) h Q ↔ PW B X 126 334 [v0, v1, v2, pm_c v3, some (.int (x + 1)), v5, v6, v7, v8, v9, v10, v11] (st) h Q := PW_step rfl rfl rfl rfl
theorem u_126_334 : PW B X 126 334 lv (st) h Q ↔ PW B X 126 112 lv (st) h Q := PW_step rfl rfl rfl rfl
theorem u_126_337 : PW B X 126 337 [v0, v1, v2, some (.int x), v4, v5, v6, v7, v8, v9, v10, v11] (st) h Q ↔ PW B X 126 338 [v0, v1, v2, some (.int x), v4, v5, v6, v7, v8, v9, v10, v11] (.int x :: st) h Q := PW_step rfl rfl rfl rfl
theorem u_126_338 : PW B X 126 338 lv ([.int x]) h Q ↔ Q (some (.int x)) h := PW_ret rfl rfl
-- 127 Ref_lay
theorem u_127_0 : PW B X 127 0 [some (.ref a), v1, v2, v3, v4, v5, v6, v7, v8, v9] (st) h Q ↔ PW B X 127 1 [some (.ref a), v1, v2, v3, v4, v5, v6, v7, v8, v9] (.ref a :: st) h Q := PW_step rfl rfl rfl rfl
theorem u_127_0n : PW B X 127 0 [some .null, v1, v2, v3, v4, v5, v6, v7, v8, v9] (st) h Q ↔ PW B X 127 1 [some .null, v1, v2, v3, v4, v5, v6, v7, v8, v9] (.null :: st) h Q := PW_step rfl rfl rfl rfl
theorem u_127_1 : PW B X 127 1 lv (.ref a :: st) h Q ↔ pm_O (pm_gf (pm_at B h a) 10 34) (fun v => PW B X 127 4 lv (v :: st) h Q) := PW_getf rfl rfl
theorem u_127_4 : PW B X 127 4 lv (st) h Q ↔ PW B X 127 5 lv (.int 4 :: st) h Q := PW_step rfl rfl rfl rfl
theorem u_127_5 : PW B X 127 5 [v0, some (.int x), v2, v3, v4, v5, v6, v7, v8, v9] (st) h Q ↔ PW B X 127 6 [v0, some (.int x), v2, v3, v4, v5, v6, v7, v8, v9] (.int x :: st) h Q := PW_step rfl rfl rfl rfl
theorem u_127_6 : PW B X 127 6 lv (.int y :: .int x :: st) h Q ↔ PW B X 127 7 lv (.int (x * y) :: st) h Q := PW_step rfl rfl rfl rfl
theorem u_127_7 : PW B X 127 7 [v0, v1, some (.long z), v3, v4, v5, v6, v7, v8, v9] (st) h Q ↔ PW B X 127 8 [v0, v1, some (.long z), v3, v4, v5, v6, v7, v8, v9] (.long z :: st) h Q := PW_step rfl rfl rfl rfl
theorem u_127_8 : PW B X 127 8 lv (.long z :: .int x :: .ref a :: st) h Q ↔ pm_O (pm_stl (pm_at B h a) x z) (fun e => PW B X 127 9 lv (st) (pm_set B h a e) Q) := PW_last rfl
theorem u_127_9 : PW B X 127 9 [some (.ref a), v1, v2, v3, v4, v5, v6, v7, v8, v9] (st) h Q ↔ PW B X 127 10 [some (.ref a), v1, v2, v3, v4, v5, v6, v7, v8, v9] (.ref a :: st) h Q := PW_step rfl rfl rfl rfl
theorem u_127_9n : PW B X 127 9 [some .null, v1, v2, v3, v4, v5, v6, v7, v8, v9] (st) h Q ↔ PW B X 127 10 [some .null, v1, v2, v3, v4, v5, v6, v7, v8, v9] (.null :: st) h Q := PW_step rfl rfl rfl rfl
theorem u_127_10 : PW B X 127 10 lv (.ref a :: st) h Q ↔ pm_O (pm_gf (pm_at B h a) 10 34) (fun v => PW B X 127 13 lv (v :: st) h Q) := PW_getf rfl rfl
theorem u_127_13 : PW B X 127 13 lv (st) h Q ↔ PW B X 127 14 lv (.int 4 :: st) h Q := PW_step rfl rfl rfl rfl
theorem u_127_14 : PW B X 127 14 [v0, some (.int x), v2, v3, v4, v5, v6, v7, v8, v9] (st) h Q ↔ PW B X 127 15 [v0, some (.int x), v2, v3, v4, v5, v6, v7, v8, v9] (.int x :: st) h Q := PW_step rfl rfl rfl rfl
theorem u_127_15 : PW B X 127 15 lv (.int y :: .int x :: st) h Q ↔ PW B X 127 16 lv (.int (x * y) :: st) h Q := PW_step rfl rfl rfl rfl
theorem u_127_16 : PW B X 127 16 lv (st) h Q ↔ PW B X 127 17 lv (.int 1 :: st) h Q := PW_step rfl rfl rfl rfl
theorem u_127_17 : PW B X 127 17 lv (.int y :: .int x :: st) h Q ↔ PW B X 127 18 lv (.int (x + y) :: st) h Q := PW_step rfl rfl rfl rfl
theorem u_127_18 : PW B X 127 18 [v0, v1, v2, v3, some (.long z), v5, v6, v7, v8, v9] (st) h Q ↔ PW B X 127 20 [v0, v1, v2, v3, some (.long z), v5, v6, v7, v8, v9] (.long z :: st) h Q := PW_step rfl rfl rfl rfl
theorem u_127_20 : PW B X 127 20 lv (.long z :: .int x :: .ref a :: st) h Q ↔ pm_O (pm_stl (pm_at B h a) x z) (fun e => PW B X 127 21 lv (st) (pm_set B h a e) Q) := PW_last rfl
theorem u_127_21 : PW B X 127 21 [some (.ref a), v1, v2, v3, v4, v5, v6, v7, v8, v9] (st) h Q ↔ PW B X 127 22 [some (.ref a), v1, v2, v3, v4, v5, v6, v7, v8, v9] (.ref a :: st) h Q := PW_step rfl rfl rfl rfl
theorem u_127_21n : PW B X 127 21 [some .null, v1, v2, v3, v4, v5, v6, v7, v8, v9] (st) h Q ↔ PW B X 127 22 [some .null, v1, v2, v3, v4, v5, v6, v7, v8, v9] (.null :: st) h Q := PW_step rfl rfl rfl rfl
theorem u_127_22 : PW B X 127 22 lv (.ref a :: st) h Q ↔ pm_O (pm_gf (pm_at B h a) 10 34) (fun v => PW B X 127 25 lv (v :: st) h Q) := PW_getf rfl rfl
theorem u_127_25 : PW B X 127 25 lv (st) h Q ↔ PW B X 127 26 lv (.int 4 :: st) h Q := PW_step rfl rfl rfl rfl
theorem u_127_26 : PW B X 127 26 [v0, some (.int x), v2, v3, v4, v5, v6, v7, v8, v9] (st) h Q ↔ PW B X 127 27 [v0, some (.int x), v2, v3, v4, v5, v6, v7, v8, v9] (.int x :: st) h Q := PW_step rfl rfl rfl rfl
theorem u_127_27 : PW B X 127 27 lv (.int y :: .int x :: st) h Q ↔ PW B X 127 28 lv (.int (x * y) :: st) h Q := PW_step rfl rfl rfl rfl
theorem u_127_28 : PW B X 127 28 lv (st) h Q ↔ PW B X 127 29 lv (.int 2 :: st) h Q := PW_step rfl rfl rfl rfl
theorem u_127_29 : PW B X 127 29 lv (.int y :: .int x :: st) h Q ↔ PW B X 127 30 lv (.int (x + y) :: st) h Q := PW_step rfl rfl rfl rfl
theorem u_127_30 : PW B X 127 30 [v0, v1, v2, v3, v4, v5, some (.long z), v7, v8, v9] (st) h Q ↔ PW B X 127 32 [v0, v1, v2, v3, v4, v5, some (.long z), v7, v8, v9] (.long z :: st) h Q := PW_step rfl rfl rfl rfl
theorem u_127_32 : PW B X 127 32 lv (.long z :: .int x :: .ref a :: st) h Q ↔ pm_O (pm_stl (pm_at B h a) x z) (fun e => PW B X 127 33 lv (st) (pm_set B h a e) Q) := PW_last rfl
theorem u_127_33 : PW B X 127 33 [some (.ref a), v1, v2, v3, v4, v5, v6, v7, v8, v9] (st) h Q ↔ PW B X 127 34 [some (.ref a), v1, v2, v3, v4, v5, v6, v7, v8, v9] (.ref a :: st) h Q := PW_step rfl rfl rfl rfl
theorem u_127_33n : PW B X 127 33 [some .null, v1, v2, v3, v4, v5, v6, v7, v8, v9] (st) h Q ↔ PW B X 127 34 [some .null, v1, v2, v3, v4, v5, v6, v7, v8, v9] (.null :: st) h Q := PW_step rfl rfl rfl rfl
theorem u_127_34 : PW B X 127 34 lv (.ref a :: st) h Q ↔ pm_O (pm_gf (pm_at B h a) 10 34) (fun v => PW B X 127 37 lv (v :: st) h Q) := PW_getf rfl rfl
theorem u_127_37 : PW B X 127 37 lv (st) h Q ↔ PW B X 127 38 lv (.int 4 :: st) h Q := PW_step rfl rfl rfl rfl
theorem u_127_38 : PW B X 127 38 [v0, some (.int x), v2, v3, v4, v5, v6, v7, v8, v9] (st) h Q ↔ PW B X 127 39 [v0, some (.int x), v2, v3, v4, v5, v6, v7, v8, v9] (.int x :: st) h Q := PW_step rfl rfl rfl rfl
theorem u_127_39 : PW B X 127 39 lv (.int y :: .int x :: st) h Q ↔ PW B X 127 40 lv (.int (x * y) :: st) h Q := PW_step rfl rfl rfl rfl
theorem u_127_40 : PW B X 127 40 lv (st) h Q ↔ PW B X 127 41 lv (.int 3 :: st) h Q := PW_step rfl rfl rfl rfl
theorem u_127_41 : PW B X 127 41 lv (.int y :: .int x :: st) h Q ↔ PW B X 127 42 lv (.int (x + y) :: st) h Q := PW_step rfl rfl rfl rfl
theorem u_127_42 : PW B X 127 42 [v0, v1, v2, v3, v4, v5, v6, v7, some (.long z), v9] (st) h Q ↔ PW B X 127 44 [v0, v1, v2, v3, v4, v5, v6, v7, some (.long z), v9] (.long z :: st) h Q := PW_step rfl rfl rfl rfl
theorem u_127_44 : PW B X 127 44 lv (.long z :: .int x :: .ref a :: st) h Q ↔ pm_O (pm_stl (pm_at B h a) x z) (fun e => PW B X 127 45 lv (st) (pm_set B h a e) Q) := PW_last rfl
theorem u_127_45 : PW B X 127 45 lv ([]) h Q ↔ Q none h := PW_ret rfl rfl
-- 128 Ref_clean
theorem u_128_0 : PW B X 128 0 lv (st) h Q ↔ PW B X 128 1 lv (.long 0 :: st) h Q := PW_step rfl rfl rfl rfl
theorem u_128_1 : PW B X 128 1 [v0, v1, v2, v3, v4] (.long z :: st) h Q ↔ PW B X 128 2 [v0, pm_c v1, some (.long z), none, v4] (st) h Q := PW_step rfl rfl rfl rfl
theorem u_128_2 : PW B X 128 2 lv (st) h Q ↔ PW B X 128 3 lv (.int 0 :: st) h Q := PW_step rfl rfl rfl rfl
theorem u_128_3 : PW B X 128 3 [v0, v1, v2, v3, v4] (.int x :: st) h Q ↔ PW B X 128 5 [v0, v1, v2, pm_c v3, some (.int x)] (st) h Q := PW_step rfl rfl rfl rfl
theorem u_128_5 : PW B X 128 5 [v0, v1, v2, v3, some (.int x)] (st) h Q ↔ PW B X 128 7 [v0, v1, v2, v3, some (.int x)] (.int x :: st) h Q := PW_step rfl rfl rfl rfl
theorem u_128_7 : PW B X 128 7 lv (st) h Q ↔ PW B X 128 8 lv (.int 4 :: st) h Q := PW_step rfl rfl rfl rfl
theorem u_128_8 : PW B X 128 8 lv (.int y :: .int x :: st) h Q ↔ (if y ≤ x then PW B X 128 33 lv (st) h Q else PW B X 128 11 lv (st) h Q) := PW_icmp rfl rfl pm_c_ge
theorem u_128_11 : PW B X 128 11 [v0, v1, some (.long z), v3, v4] (st) h Q ↔ PW B X 128 12 [v0, v1, some (.long z), v3, v4] (.long z :: st) h Q := PW_step rfl rfl rfl rfl
theorem u_128_12 : PW B X 128 12 [some (.ref a), v1, v2, v3, v4] (st) h Q ↔ PW B X 128 13 [some (.ref a), v1, v2, v3, v4] (.ref a :: st) h Q := PW_step rfl rfl rfl rfl
theorem u_128_12n : PW B X 128 12 [some .null, v1, v2, v3, v4] (st) h Q ↔ PW B X 128 13 [some .null, v1, v2, v3, v4] (.null :: st) h Q := PW_step rfl rfl rfl rfl
theorem u_128_13 : PW B X 128 13 lv (.ref a :: st) h Q ↔ pm_O (pm_gf (pm_at B h a) 10 34) (fun v => PW B X 128 16 lv (v :: st) h Q) := PW_getf rfl rfl
theorem u_128_16 : PW B X 128 16 lv (st) h Q ↔ PW B X 128 17 lv (.int 4 :: st) h Q := PW_step rfl rfl rfl rfl
theorem u_128_17 : PW B X 128 17 [v0, some (.int x), v2, v3, v4] (st) h Q ↔ PW B X 128 18 [v0, some (.int x), v2, v3, v4] (.int x :: st) h Q := PW_step rfl rfl rfl rfl
theorem u_128_18 : PW B X 128 18 lv (.int y :: .int x :: st) h Q ↔ PW B X 128 19 lv (.int (x * y) :: st) h Q := PW_step rfl rfl rfl rfl
theorem u_128_19 : PW B X 128 19 [v0, v1, v2, v3, some (.int x)] (st) h Q ↔ PW B X 128 21 [v0, v1, v2, v3, some (.int x)] (.int x :: st) h Q := PW_step rfl rfl rfl rfl
theorem u_128_21 : PW B X 128 21 lv (.int y :: .int x :: st) h Q ↔ PW B X 128 22 lv (.int (x + y) :: st) h Q := PW_step rfl rfl rfl rfl
theorem u_128_22 : PW B X 128 22 lv (.int x :: .ref a :: st) h Q ↔ pm_O (pm_ldl (pm_at B h a) x) (fun v => PW B X 128 23 lv (v :: st) h Q) := PW_lald rfl
theorem u_128_23 : PW B X 128 23 lv (.long p1 :: .long p0 :: st) h Q ↔ (pm_w st ≤ 8 ∧ PW B X 129 0 [some (.long p0), none, some (.long p1), none, none, none, none, none, none, none] [] h (fun r h' => PW B X 128 26 lv (r.toList ++ st) h' Q)) := PW_cs (y := 129) (as := [.long p0, .long p1]) (rest := st) rfl rfl rfl rfl rfl ⟨Nat.le_of_ble_eq_true rfl, Nat.le_of_ble_eq_true rfl, Nat.le_of_ble_eq_true rfl⟩
theorem u_128_26 : PW B X 128 26 [v0, v1, v2, v3, v4] (.long z :: st) h Q ↔ PW B X 128 27 [v0, pm_c v1, some (.long z), none, v4] (st) h Q := PW_step rfl rfl rfl rfl
theorem u_128_27 : PW B X 128 27 [v0, v1, v2, v3, some (.int x)] (st) h Q ↔ PW B X 128 30 [v0, v1, v2, pm_c v3, some (.int (x + 1))] (st) h Q := PW_step rfl rfl rfl rfl
theorem u_128_30 : PW B X 128 30 lv (st) h Q ↔ PW B X 128 5 lv (st) h Q := PW_step rfl rfl rfl rfl
theorem u_128_33 : PW B X 128 33 lv (st) h Q ↔ PW B X 128 34 lv (.int 0 :: st) h Q := PW_step rfl rfl rfl rfl
theorem u_128_34 : PW B X 128 34 [v0, v1, v2, v3, v4] (.int x :: st) h Q ↔ PW B X 128 36 [v0, v1, v2, pm_c v3, some (.int x)] (st) h Q := PW_step rfl rfl rfl rfl
theorem u_128_36 : PW B X 128 36 [v0, v1, v2, v3, some (.int x)] (st) h Q ↔ PW B X 128 38 [v0, v1, v2, v3, some (.int x)] (.int x :: st) h Q := PW_step rfl rfl rfl rfl
theorem u_128_38 : PW B X 128 38 lv (st) h Q ↔ PW B X 128 39 lv (.int 4 :: st) h Q := PW_step rfl rfl rfl rfl
theorem u_128_39 : PW B X 128 39 lv (.int y :: .int x :: st) h Q ↔ (if y ≤ x then PW B X 128 69 lv (st) h Q else PW B X 128 42 lv (st) h Q) := PW_icmp rfl rfl pm_c_ge
theorem u_128_42 : PW B X 128 42 [v0, v1, some (.long z), v3, v4] (st) h Q ↔ PW B X 128 43 [v0, v1, some (.long z), v3, v4] (.long z :: st) h Q := PW_step rfl rfl rfl rfl
theorem u_128_43 : PW B X 128 43 lv (st) h Q ↔ PW B X 128 44 lv (.long 0 :: st) h Q := PW_step rfl rfl rfl rfl
theorem u_128_44 : PW B X 128 44 lv (.long w :: .long z :: st) h Q ↔ PW B X 128 45 lv (.int (lg_cmp z w) :: st) h Q := PW_step rfl rfl rfl rfl
theorem u_128_45 : PW B X 128 45 lv (.int x :: st) h Q ↔ (if x ≤ 0 then PW B X 128 69 lv (st) h Q else PW B X 128 48 lv (st) h Q) := PW_if rfl rfl pm_c_le
theorem u_128_48 : PW B X 128 48 [some (.ref a), v1, v2, v3, v4] (st) h Q ↔ PW B X 128 49 [some (.ref a), v1, v2, v3, v4] (.ref a :: st) h Q := PW_step rfl rfl rfl rfl
theorem u_128_48n : PW B X 128 48 [some .null, v1, v2, v3, v4] (st) h Q ↔ PW B X 128 49 [some .null, v1, v2, v3, v4] (.null :: st) h Q := PW_step rfl rfl rfl rfl
theorem u_128_49 : PW B X 128 49 lv (.ref a :: st) h Q ↔ pm_O (pm_gf (pm_at B h a) 10 34) (fun v => PW B X 128 52 lv (v :: st) h Q) := PW_getf rfl rfl
theorem u_128_52 : PW B X 128 52 lv (st) h Q ↔ PW B X 128 53 lv (.int 4 :: st) h Q := PW_step rfl rfl rfl rfl
theorem u_128_53 : PW B X 128 53 [v0, some (.int x), v2, v3, v4] (st) h Q ↔ PW B X 128 54 [v0, some (.int x), v2, v3, v4] (.int x :: st) h Q := PW_step rfl rfl rfl rfl
theorem u_128_54 : PW B X 128 54 lv (.int y :: .int x :: st) h Q ↔ PW B X 128 55 lv (.int (x * y) :: st) h Q := PW_step rfl rfl rfl rfl
theorem u_128_55 : PW B X 128 55 [v0, v1, v2, v3, some (.int x)] (st) h Q ↔ PW B X 128 57 [v0, v1, v2, v3, some (.int x)] (.int x :: st) h Q := PW_step rfl rfl rfl rfl
theorem u_128_57 : PW B X 128 57 lv (.int y :: .int x :: st) h Q ↔ PW B X 128 58 lv (.int (x + y) :: st) h Q := PW_step rfl rfl rfl rfl
theorem u_128_58 : PW B X 128 58 lv (.int x :: .ref a :: st) h Q ↔ PW B X 128 59 lv (.int x :: .ref a :: .int x :: .ref a :: st) h Q := PW_step rfl rfl rfl rfl
theorem u_128_59 : PW B X 128 59 lv (.int x :: .ref a :: st) h Q ↔ pm_O (pm_ldl (pm_at B h a) x) (fun v => PW B X 128 60 lv (v :: st) h Q) := PW_lald rfl
theorem u_128_60 : PW B X 128 60 [v0, v1, some (.long z), v3, v4] (st) h Q ↔ PW B X 128 61 [v0, v1, some (.long z), v3, v4] (.long z :: st) h Q := PW_step rfl rfl rfl rfl
theorem u_128_61 : PW B X 128 61 lv (.long w :: .long z :: st) h Q ↔ (¬ w = 0 ∧ PW B X 128 62 lv (.long (z / w) :: st) h Q) := PW_ldiv rfl
theorem u_128_62 : PW B X 128 62 lv (.long z :: .int x :: .ref a :: st) h Q ↔ pm_O (pm_stl (pm_at B h a) x z) (fun e => PW B X 128 63 lv (st) (pm_set B h a e) Q) := PW_last rfl
theorem u_128_63 : PW B X 128 63 [v0, v1, v2, v3, some (.int x)] (st) h Q ↔ PW B X 128 66 [v0, v1, v2, pm_c v3, some (.int (x + 1))] (st) h Q := PW_step rfl rfl rfl rfl
theorem u_128_66 : PW B X 128 66 lv (st) h Q ↔ PW B X 128 36 lv (st) h Q := PW_step rfl rfl rfl rfl
theorem u_128_69 : PW B X 128 69 lv ([]) h Q ↔ Q none h := PW_ret rfl rfl
-- 129 Ref_divisor
theorem u_129_0 : PW B X 129 0 [some (.long z), v1, v2, v3, v4, v5, v6, v7, v8, v9] (st) h Q ↔ PW B X 129 1 [some (.long z), v1, v2, v3, v4, v5, v6, v7, v8, v9] (.long z :: st) h Q := PW_step rfl rfl rfl rfl
theorem u_129_1 : PW B X 129 1 lv (st) h Q ↔ PW B X 129 2 lv (.long 0 :: st) h Q := PW_step rfl rfl rfl rfl
theorem u_129_2 : PW B X 129 2 lv (.long w :: .long z :: st) h Q ↔ PW B X 129 3 lv (.int (lg_cmp z w) :: st) h Q := PW_step rfl rfl rfl rfl
theorem u_129_3 : PW B X 129 3 lv (.int x :: st) h Q ↔ (if 0 ≤ x then PW B X 129 11 lv (st) h Q else PW B X 129 6 lv (st) h Q) := PW_if rfl rfl pm_c_ge
theorem u_129_6 : PW B X 129 6 [some (.long z), v1, v2, v3, v4, v5, v6, v7, v8, v9] (st) h Q ↔ PW B X 129 7 [some (.long z), v1, v2, v3, v4, v5, v6, v7, v8, v9] (.long z :: st) h Q := PW_step rfl rfl rfl rfl
theorem u_129_7 : PW B X 129 7 lv (.long z :: st) h Q ↔ PW B X 129 8 lv (.long (-z) :: st) h Q := PW_step rfl rfl rfl rfl
theorem u_129_8 : PW B X 129 8 lv (st) h Q ↔ PW B X 129 12 lv (st) h Q := PW_step rfl rfl rfl rfl
theorem u_129_11 : PW B X 129 11 [some (.long z), v1, v2, v3, v4, v5, v6, v7, v8, v9] (st) h Q ↔ PW B X 129 12 [some (.long z), v1, v2, v3, v4, v5, v6, v7, v8, v9] (.long z :: st) h Q := PW_step rfl rfl rfl rfl
theorem u_129_12 : PW B X 129 12 [v0, v1, v2, v3, v4, v5, v6, v7, v8, v9] (.long z :: st) h Q ↔ PW B X 129 14 [v0, v1, v2, pm_c v3, some (.long z), none, v6, v7, v8, v9] (st) h Q := PW_step rfl rfl rfl rfl
theorem u_129_14 : PW B X 129 14 [v0, v1, some (.long z), v3, v4, v5, v6, v7, v8, v9] (st) h Q ↔ PW B X 129 15 [v0, v1, some (.long z), v3, v4, v5, v6, v7, v8, v9] (.long z :: st) h Q := PW_step rfl rfl rfl rfl
theorem u_129_15 : PW B X 129 15 lv (st) h Q ↔ PW B X 129 16 lv (.long 0 :: st) h Q := PW_step rfl rfl rfl rfl
theorem u_129_16 : PW B X 129 16 lv (.long w :: .long z :: st) h Q ↔ PW B X 129 17 lv (.int (lg_cmp z w) :: st) h Q := PW_step rfl rfl rfl rfl
theorem u_129_17 : PW B X 129 17 lv (.int x :: st) h Q ↔ (if 0 ≤ x then PW B X 129 25 lv (st) h Q else PW B X 129 20 lv (st) h Q) := PW_if rfl rfl pm_c_ge
theorem u_129_20 : PW B X 129 20 [v0, v1, some (.long z), v3, v4, v5, v6, v7, v8, v9] (st) h Q ↔ PW B X 129 21 [v0, v1, some (.long z), v3, v4, v5, v6, v7, v8, v9] (.long z :: st) h Q := PW_step rfl rfl rfl rfl
theorem u_129_21 : PW B X 129 21 lv (.long z :: st) h Q ↔ PW B X 129 22 lv (.long (-z) :: st) h Q := PW_step rfl rfl rfl rfl
theorem u_129_22 : PW B X 129 22 lv (st) h Q ↔ PW B X 129 26 lv (st) h Q := PW_step rfl rfl rfl rfl
theorem u_129_25 : PW B X 129 25 [v0, v1, some (.long z), v3, v4, v5, v6, v7, v8, v9] (st) h Q ↔ PW B X 129 26 [v0, v1, some (.long z), v3, v4, v5, v6, v7, v8, v9] (.long z :: st) h Q := PW_step rfl rfl rfl rfl
theorem u_129_26 : PW B X 129 26 [v0, v1, v2, v3, v4, v5, v6, v7, v8, v9] (.long z :: st) h Q ↔ PW B X 129 28 [v0, v1, v2, v3, v4, pm_c v5, some (.long z), none, v8, v9] (st) h Q := PW_step rfl rfl rfl rfl
theorem u_129_28 : PW B X 129 28 [v0, v1, v2, v3, v4, v5, some (.long z), v7, v8, v9] (st) h Q ↔ PW B X 129 30 [v0, v1, v2, v3, v4, v5, some (.long z), v7, v8, v9] (.long z :: st) h Q := PW_step rfl rfl rfl rfl
theorem u_129_30 : PW B X 129 30 lv (st) h Q ↔ PW B X 129 31 lv (.long 0 :: st) h Q := PW_step rfl rfl rfl rfl
theorem u_129_31 : PW B X 129 31 lv (.long w :: .long z :: st) h Q ↔ PW B X 129 32 lv (.int (lg_cmp z w) :: st) h Q := PW_step rfl rfl rfl rfl
theorem u_129_32 : PW B X 129 32 lv (.int x :: st) h Q ↔ (if x = 0 then PW B X 129 53 lv (st) h Q else PW B X 129 35 lv (st) h Q) := PW_if rfl rfl pm_c_eq
theorem u_129_35 : PW B X 129 35 [v0, v1, v2, v3, some (.long z), v5, v6, v7, v8, v9] (st) h Q ↔ PW B X 129 37 [v0, v1, v2, v3, some (.long z), v5, v6, v7, v8, v9] (.long z :: st) h Q := PW_step rfl rfl rfl rfl
theorem u_129_37 : PW B X 129 37 [v0, v1, v2, v3, v4, v5, some (.long z), v7, v8, v9] (st) h Q ↔ PW B X 129 39 [v0, v1, v2, v3, v4, v5, some (.long z), v7, v8, v9] (.long z :: st) h Q := PW_step rfl rfl rfl rfl
theorem u_129_39 : PW B X 129 39 lv (.long w :: .long z :: st) h Q ↔ (¬ w = 0 ∧ PW B X 129 40 lv (.long (z - z / w * w) :: st) h Q) := PW_lrem rfl
theorem u_129_40 : PW B X 129 40 [v0, v1, v2, v3, v4, v5, v6, v7, v8, v9] (.long z :: st) h Q ↔ PW B X 129 42 [v0, v1, v2, v3, v4, v5, v6, pm_c v7, some (.long z), none] (st) h Q := PW_step rfl rfl rfl rfl
theorem u_129_42 : PW B X 129 42 [v0, v1, v2, v3, v4, v5, some (.long z), v7, v8, v9] (st) h Q ↔ PW B X 129 44 [v0, v1, v2, v3, v4, v5, some (.long z), v7, v8, v9] (.long z :: st) h Q := PW_step rfl rfl rfl rfl
theorem u_129_44 : PW B X 129 44 [v0, v1, v2, v3, v4, v5, v6, v7, v8, v9] (.long z :: st) h Q ↔ PW B X 129 46 [v0, v1, v2, pm_c v3, some (.long z), none, v6, v7, v8, v9] (st) h Q := PW_step rfl rfl rfl rfl
theorem u_129_46 : PW B X 129 46 [v0, v1, v2, v3, v4, v5, v6, v7, some (.long z), v9] (st) h Q ↔ PW B X 129 48 [v0, v1, v2, v3, v4, v5, v6, v7, some (.long z), v9] (.long z :: st) h Q := PW_step rfl rfl rfl rfl
theorem u_129_48 : PW B X 129 48 [v0, v1, v2, v3, v4, v5, v6, v7, v8, v9] (.long z :: st) h Q ↔ PW B X 129 50 [v0, v1, v2, v3, v4, pm_c v5, some (.long z), none, v8, v9] (st) h Q := PW_step rfl rfl rfl rfl
theorem u_129_50 : PW B X 129 50 lv (st) h Q ↔ PW B X 129 28 lv (st) h Q := PW_step rfl rfl rfl rfl
theorem u_129_53 : PW B X 129 53 [v0, v1, v2, v3, some (.long z), v5, v6, v7, v8, v9] (st) h Q ↔ PW B X 129 55 [v0, v1, v2, v3, some (.long z), v5, v6, v7, v8, v9] (.long z :: st) h Q := PW_step rfl rfl rfl rfl
theorem u_129_55 : PW B X 129 55 lv ([.long z]) h Q ↔ Q (some (.long z)) h := PW_ret rfl rfl
-- 130 Ref_locked
theorem u_130_0 : PW B X 130 0 [some (.ref a)] (st) h Q ↔ PW B X 130 1 [some (.ref a)] (.ref a :: st) h Q := PW_step rfl rfl rfl rfl
theorem u_130_0n : PW B X 130 0 [some .null] (st) h Q ↔ PW B X 130 1 [some .null] (.null :: st) h Q := PW_step rfl rfl rfl rfl
theorem u_130_1 : PW B X 130 1 lv (st) h Q ↔ PW B X 130 2 lv (.int 1 :: st) h Q := PW_step rfl rfl rfl rfl
theorem u_130_2 : PW B X 130 2 lv (.int q0 :: .ref a :: st) h Q ↔ (pm_w st ≤ 8 ∧ pm_io B h a 10 = true ∧ PW B X 126 0 [some (.ref a), some (.int q0), none, none, none, none, none, none, none, none, none, none] [] h (fun r h' => PW B X 130 5 lv (r.toList ++ st) h' Q)) := PW_cv (y := 126) (as := [.int q0]) (rest := st) rfl rfl rfl rfl rfl ⟨Nat.le_of_ble_eq_true rfl, Nat.le_of_ble_eq_true rfl, Nat.le_of_ble_eq_true rfl⟩
theorem u_130_5 : PW B X 130 5 [some (.ref a)] (st) h Q ↔ PW B X 130 6 [some (.ref a)] (.ref a :: st) h Q := PW_step rfl rfl rfl rfl
theorem u_130_5n : PW B X 130 5 [some .null] (st) h Q ↔ PW B X 130 6 [some .null] (.null :: st) h Q := PW_step rfl rfl rfl rfl
theorem u_130_6 : PW B X 130 6 lv (st) h Q ↔ PW B X 130 7 lv (.int 0 :: st) h Q := PW_step rfl rfl rfl rfl
theorem u_130_7 : PW B X 130 7 lv (.int q0 :: .ref a :: st) h Q ↔ (pm_w st ≤ 8 ∧ pm_io B h a 10 = true ∧ PW B X 126 0 [some (.ref a), some (.int q0), none, none, none, none, none, none, none, none, none, none] [] h (fun r h' => PW B X 130 10 lv (r.toList ++ st) h' Q)) := PW_cv (y := 126) (as := [.int q0]) (rest := st) rfl rfl rfl rfl rfl ⟨Nat.le_of_ble_eq_true rfl, Nat.le_of_ble_eq_true rfl, Nat.le_of_ble_eq_true rfl⟩
theorem u_130_10 : PW B X 130 10 lv (.int y :: .int x :: st) h Q ↔ (if x ≤ y then PW B X 130 17 lv (st) h Q else PW B X 130 13 lv (st) h Q) := PW_icmp rfl rfl pm_c_le
theorem u_130_13 : PW B X 130 13 lv (st) h Q ↔ PW B X 130 14 lv (.int 1 :: st) h Q := PW_step rfl rfl rfl rfl
theorem u_130_14 : PW B X 130 14 lv (st) h Q ↔ PW B X 130 18 lv (st) h Q := PW_step rfl rfl rfl rfl
theorem u_130_17 : PW B X 130 17 lv (st) h Q ↔ PW B X 130 18 lv (.int 0 :: st) h Q := PW_step rfl rfl rfl rfl
theorem u_130_18 (hx : narrow .boolean (.int x) = .int x) : PW B X 130 18 lv ([.int x]) h Q ↔ Q (some (.int x)) h := PW_bret rfl rfl (by simp) hx
theorem u_130_18_0 : PW B X 130 18 lv ([.int 0]) h Q ↔ Q (some (.int 0)) h := u_130_18 rfl
theorem u_130_18_1 : PW B X 130 18 lv ([.int 1]) h Q ↔ Q (some (.int 1)) h := u_130_18 rfl
-- 131 Ref_direction
theorem u_131_0 : PW B X 131 0 lv (st) h Q ↔ PW B X 131 1 lv (.int (-1) :: st) h Q := PW_step rfl rfl rfl rfl
theorem u_131_1 : PW B X 131 1 [v0, v1, v2, v3, v4, v5, v6] (.int x :: st) h Q ↔ PW B X 131 2 [v0, v1, pm_c v2, some (.int x), v4, v5, v6] (st) h Q := PW_step rfl rfl rfl rfl
theorem u_131_2 : PW B X 131 2 [some (.ref a), v1, v2, v3, v4, v5, v6] (st) h Q ↔ PW B X 131 3 [some (.ref a), v1, v2, v3, v4, v5, v6] (.ref a :: st) h Q := PW_step rfl rfl rfl rfl
theorem u_131_2n : PW B X 131 2 [some .null, v1, v2, v3, v4, v5, v6] (st) h Q ↔ PW B X 131 3 [some .null, v1, v2, v3, v4, v5, v6] (.null :: st) h Q := PW_step rfl rfl rfl rfl
theorem u_131_3 : PW B X 131 3 lv (.ref a :: st) h Q ↔ pm_O (pm_gf (pm_at B h a) 10 0) (fun v => PW B X 131 6 lv (v :: st) h Q) := PW_getf rfl rfl
theorem u_131_6 : PW B X 131 6 lv (st) h Q ↔ PW B X 131 7 lv (.int 1 :: st) h Q := PW_step rfl rfl rfl rfl
theorem u_131_7 : PW B X 131 7 lv (.int y :: .int x :: st) h Q ↔ PW B X 131 8 lv (.int (x - y) :: st) h Q := PW_step rfl rfl rfl rfl
theorem u_131_8 : PW B X 131 8 [v0, v1, v2, v3, v4, v5, v6] (.int x :: st) h Q ↔ PW B X 131 10 [v0, v1, v2, pm_c v3, some (.int x), v5, v6] (st) h Q := PW_step rfl rfl rfl rfl
theorem u_131_10 : PW B X 131 10 [v0, v1, v2, v3, some (.int x), v5, v6] (st) h Q ↔ PW B X 131 12 [v0, v1, v2, v3, some (.int x), v5, v6] (.int x :: st) h Q := PW_step rfl rfl rfl rfl
theorem u_131_12 : PW B X 131 12 lv (.int x :: st) h Q ↔ (if x < 0 then PW B X 131 54 lv (st) h Q else PW B X 131 15 lv (st) h Q) := PW_if rfl rfl pm_c_lt
theorem u_131_15 : PW B X 131 15 [some (.ref a), v1, v2, v3, v4, v5, v6] (st) h Q ↔ PW B X 131 16 [some (.ref a), v1, v2, v3, v4, v5, v6] (.ref a :: st) h Q := PW_step rfl rfl rfl rfl
theorem u_131_15n : PW B X 131 15 [some .null, v1, v2, v3, v4, v5, v6] (st) h Q ↔ PW B X 131 16 [some .null, v1, v2, v3, v4, v5, v6] (.null :: st) h Q := PW_step rfl rfl rfl rfl
theorem u_131_16 : PW B X 131 16 lv (.ref a :: st) h Q ↔ pm_O (pm_gf (pm_at B h a) 10 3) (fun v => PW B X 131 19 lv (v :: st) h Q) := PW_getf rfl rfl
theorem u_131_19 : PW B X 131 19 lv (st) h Q ↔ PW B X 131 20 lv (.int 2 :: st) h Q := PW_step rfl rfl rfl rfl
theorem u_131_20 : PW B X 131 20 [v0, v1, v2, v3, some (.int x), v5, v6] (st) h Q ↔ PW B X 131 22 [v0, v1, v2, v3, some (.int x), v5, v6] (.int x :: st) h Q := PW_step rfl rfl rfl rfl
theorem u_131_22 : PW B X 131 22 lv (.int y :: .int x :: st) h Q ↔ PW B X 131 23 lv (.int (x * y) :: st) h Q := PW_step rfl rfl rfl rfl
theorem u_131_23 : PW B X 131 23 lv (.int x :: .ref a :: st) h Q ↔ pm_O (pm_ldi 3 (pm_at B h a) x) (fun v => PW B X 131 24 lv (v :: st) h Q) := PW_bald rfl
theorem u_131_24 : PW B X 131 24 lv (.int x :: st) h Q ↔ (if x = 0 then PW B X 131 46 lv (st) h Q else PW B X 131 27 lv (st) h Q) := PW_if rfl rfl pm_c_eq
theorem u_131_27 : PW B X 131 27 [some (.ref a), v1, v2, v3, v4, v5, v6] (st) h Q ↔ PW B X 131 28 [some (.ref a), v1, v2, v3, v4, v5, v6] (.ref a :: st) h Q := PW_step rfl rfl rfl rfl
theorem u_131_27n : PW B X 131 27 [some .null, v1, v2, v3, v4, v5, v6] (st) h Q ↔ PW B X 131 28 [some .null, v1, v2, v3, v4, v5, v6] (.null :: st) h Q := PW_step rfl rfl rfl rfl
theorem u_131_28 : PW B X 131 28 lv (.ref a :: st) h Q ↔ pm_O (pm_gf (pm_at B h a) 10 3) (fun v => PW B X 131 31 lv (v :: st) h Q) := PW_getf rfl rfl
theorem u_131_31 : PW B X 131 31 lv (st) h Q ↔ PW B X 131 32 lv (.int 2 :: st) h Q := PW_step rfl rfl rfl rfl
theorem u_131_32 : PW B X 131 32 [v0, v1, v2, v3, some (.int x), v5, v6] (st) h Q ↔ PW B X 131 34 [v0, v1, v2, v3, some (.int x), v5, v6] (.int x :: st) h Q := PW_step rfl rfl rfl rfl
theorem u_131_34 : PW B X 131 34 lv (.int y :: .int x :: st) h Q ↔ PW B X 131 35 lv (.int (x * y) :: st) h Q := PW_step rfl rfl rfl rfl
theorem u_131_35 : PW B X 131 35 lv (st) h Q ↔ PW B X 131 36 lv (.int 1 :: st) h Q := PW_step rfl rfl rfl rfl
theorem u_131_36 : PW B X 131 36 lv (.int y :: .int x :: st) h Q ↔ PW B X 131 37 lv (.int (x + y) :: st) h Q := PW_step rfl rfl rfl rfl
theorem u_131_37 : PW B X 131 37 lv (.int x :: .ref a :: st) h Q ↔ pm_O (pm_ldi 3 (pm_at B h a) x) (fun v => PW B X 131 38 lv (v :: st) h Q) := PW_bald rfl
theorem u_131_38 : PW B X 131 38 lv (.int x :: st) h Q ↔ (if x = 0 then PW B X 131 46 lv (st) h Q else PW B X 131 41 lv (st) h Q) := PW_if rfl rfl pm_c_eq
theorem u_131_41 : PW B X 131 41 [v0, v1, v2, v3, some (.int x), v5, v6] (st) h Q ↔ PW B X 131 43 [v0, v1, v2, v3, some (.int x), v5, v6] (.int x :: st) h Q := PW_step rfl rfl rfl rfl
theorem u_131_43 : PW B X 131 43 lv (st) h Q ↔ PW B X 131 47 lv (st) h Q := PW_step rfl rfl rfl rfl
theorem u_131_46 : PW B X 131 46 [v0, v1, v2, some (.int x), v4, v5, v6] (st) h Q ↔ PW B X 131 47 [v0, v1, v2, some (.int x), v4, v5, v6] (.int x :: st) h Q := PW_step rfl rfl rfl rfl
theorem u_131_47 : PW B X 131 47 [v0, v1, v2, v3, v4, v5, v6] (.int x :: st) h Q ↔ PW B X 131 48 [v0, v1, pm_c v2, some (.int x), v4, v5, v6] (st) h Q := PW_step rfl rfl rfl rfl
theorem u_131_48 : PW B X 131 48 [v0, v1, v2, v3, some (.int x), v5, v6] (st) h Q ↔ PW B X 131 51 [v0, v1, v2, pm_c v3, some (.int (x + (-1))), v5, v6] (st) h Q := PW_step rfl rfl rfl rfl
theorem u_131_51 : PW B X 131 51 lv (st) h Q ↔ PW B X 131 10 lv (st) h Q := PW_step rfl rfl rfl rfl
theorem u_131_54 : PW B X 131 54 [some (.ref a), v1, v2, v3, v4, v5, v6] (st) h Q ↔ PW B X 131 55 [some (.ref a), v1, v2, v3, v4, v5, v6] (.ref a :: st) h Q := PW_step rfl rfl rfl rfl
theorem u_131_54n : PW B X 131 54 [some .null, v1, v2, v3, v4, v5, v6] (st) h Q ↔ PW B X 131 55 [some .null, v1, v2, v3, v4, v5, v6] (.null :: st) h Q := PW_step rfl rfl rfl rfl
theorem u_131_55 : PW B X 131 55 [v0, some (.int x), v2, v3, v4, v5, v6] (st) h Q ↔ PW B X 131 56 [v0, some (.int x), v2, v3, v4, v5, v6] (.int x :: st) h Q := PW_step rfl rfl rfl rfl
theorem u_131_56 : PW B X 131 56 lv (.int q0 :: .ref a :: st) h Q ↔ (pm_w st ≤ 8 ∧ pm_io B h a 10 = true ∧ PW B X 96 0 [some (.ref a), some (.int q0)] [] h (fun r h' => PW B X 131 59 lv (r.toList ++ st) h' Q)) := PW_cv (y := 96) (as := [.int q0]) (rest := st) rfl rfl rfl rfl rfl ⟨Nat.le_of_ble_eq_true rfl, Nat.le_of_ble_eq_true rfl, Nat.le_of_ble_eq_true rfl⟩
theorem u_131_59 : PW B X 131 59 lv (.int x :: st) h Q ↔ (if x = 0 then PW B X 131 77 lv (st) h Q else PW B X 131 62 lv (st) h Q) := PW_if rfl rfl pm_c_eq
theorem u_131_62 : PW B X 131 62 [v0, v1, some (.int x), v3, v4, v5, v6] (st) h Q ↔ PW B X 131 63 [v0, v1, some (.int x), v3, v4, v5, v6] (.int x :: st) h Q := PW_step rfl rfl rfl rfl
theorem u_131_63 : PW B X 131 63 lv (.int x :: st) h Q ↔ PW B X 131 64 lv (.long x.toInt64 :: st) h Q := PW_step rfl rfl rfl rfl
theorem u_131_64 : PW B X 131 64 lv (st) h Q ↔ PW B X 131 65 lv (.long 0 :: st) h Q := PW_step rfl rfl rfl rfl
theorem u_131_65 : PW B X 131 65 lv (st) h Q ↔ PW B X 131 66 lv (.long 1 :: st) h Q := PW_step rfl rfl rfl rfl
theorem u_131_66 : PW B X 131 66 lv (.long p2 :: .long p1 :: .long p0 :: st) h Q ↔ (pm_w st ≤ 8 ∧ PW B X 94 0 [some (.long p0), none, some (.long p1), none, some (.long p2), none] [] h (fun r h' => PW B X 131 69 lv (r.toList ++ st) h' Q)) := PW_cs (y := 94) (as := [.long p0, .long p1, .long p2]) (rest := st) rfl rfl rfl rfl rfl ⟨Nat.le_of_ble_eq_true rfl, Nat.le_of_ble_eq_true rfl, Nat.le_of_ble_eq_true rfl⟩
theorem u_131_69 : PW B X 131 69 lv (.int x :: st) h Q ↔ (if x = 0 then PW B X 131 77 lv (st) h Q else PW B X 131 72 lv (st) h Q) := PW_if rfl rfl pm_c_eq
theorem u_131_72 : PW B X 131 72 [v0, v1, v2, some (.int x), v4, v5, v6] (st) h Q ↔ PW B X 131 73 [v0, v1, v2, some (.int x), v4, v5, v6] (.int x :: st) h Q := PW_step rfl rfl rfl rfl
theorem u_131_73 : PW B X 131 73 lv (st) h Q ↔ PW B X 131 74 lv (.int (-1) :: st) h Q := PW_step rfl rfl rfl rfl
theorem u_131_74 : PW B X 131 74 lv (.int y :: .int x :: st) h Q ↔ (if ¬ x = y then PW B X 131 79 lv (st) h Q else PW B X 131 77 lv (st) h Q) := PW_icmp rfl rfl pm_c_ne
theorem u_131_77 : PW B X 131 77 lv (st) h Q ↔ PW B X 131 78 lv (.int (-1) :: st) h Q := PW_step rfl rfl rfl rfl
theorem u_131_78 : PW B X 131 78 lv ([.int x]) h Q ↔ Q (some (.int x)) h := PW_ret rfl rfl
theorem u_131_79 : PW B X 131 79 [some (.ref a), v1, v2, v3, v4, v5, v6] (st) h Q ↔ PW B X 131 80 [some (.ref a), v1, v2, v3, v4, v5, v6] (.ref a :: st) h Q := PW_step rfl rfl rfl rfl
theorem u_131_79n : PW B X 131 79 [some .null, v1, v2, v3, v4, v5, v6] (st) h Q ↔ PW B X 131 80 [some .null, v1, v2, v3, v4, v5, v6] (.null :: st) h Q := PW_step rfl rfl rfl rfl
theorem u_131_80 : PW B X 131 80 lv (.ref a :: st) h Q ↔ pm_O (pm_gf (pm_at B h a) 10 1) (fun v => PW B X 131 83 lv (v :: st) h Q) := PW_getf rfl rfl
theorem u_131_83 : PW B X 131 83 [v0, some (.int x), v2, v3, v4, v5, v6] (st) h Q ↔ PW B X 131 84 [v0, some (.int x), v2, v3, v4, v5, v6] (.int x :: st) h Q := PW_step rfl rfl rfl rfl
theorem u_131_84 : PW B X 131 84 lv (.int x :: .ref a :: st) h Q ↔ pm_O (pm_ldi 0 (pm_at B h a) x) (fun v => PW B X 131 85 lv (v :: st) h Q) := PW_iald rfl rfl
theorem u_131_85 : PW B X 131 85 [some (.ref a), v1, v2, v3, v4, v5, v6] (st) h Q ↔ PW B X 131 86 [some (.ref a), v1, v2, v3, v4, v5, v6] (.ref a :: st) h Q := PW_step rfl rfl rfl rfl
theorem u_131_85n : PW B X 131 85 [some .null, v1, v2, v3, v4, v5, v6] (st) h Q ↔ PW B X 131 86 [some .null, v1, v2, v3, v4, v5, v6] (.null :: st) h Q := PW_step rfl rfl rfl rfl
theorem u_131_86 : PW B X 131 86 lv (.ref a :: st) h Q ↔ pm_O (pm_gf (pm_at B h a) 10 1) (fun v => PW B X 131 89 lv (v :: st) h Q) := PW_getf rfl rfl
theorem u_131_89 : PW B X 131 89 [v0, v1, v2, some (.int x), v4, v5, v6] (st) h Q ↔ PW B X 131 90 [v0, v1, v2, some (.int x), v4, v5, v6] (.int x :: st) h Q := PW_step rfl rfl rfl rfl
theorem u_131_90 : PW B X 131 90 lv (.int x :: .ref a :: st) h Q ↔ pm_O (pm_ldi 0 (pm_at B h a) x) (fun v => PW B X 131 91 lv (v :: st) h Q) := PW_iald rfl rfl
theorem u_131_91 : PW B X 131 91 lv (.int y :: .int x :: st) h Q ↔ PW B X 131 92 lv (.int (x - y) :: st) h Q := PW_step rfl rfl rfl rfl
theorem u_131_92 : PW B X 131 92 [v0, v1, v2, v3, v4, v5, v6] (.int x :: st) h Q ↔ PW B X 131 94 [v0, v1, v2, pm_c v3, some (.int x), v5, v6] (st) h Q := PW_step rfl rfl rfl rfl
theorem u_131_94 : PW B X 131 94 [some (.ref a), v1, v2, v3, v4, v5, v6] (st) h Q ↔ PW B X 131 95 [some (.ref a), v1, v2, v3, v4, v5, v6] (.ref a :: st) h Q := PW_step rfl rfl rfl rfl
theorem u_131_94n : PW B X 131 94 [some .null, v1, v2, v3, v4, v5, v6] (st) h Q ↔ PW B X 131 95 [some .null, v1, v2, v3, v4, v5, v6] (.null :: st) h Q := PW_step rfl rfl rfl rfl
theorem u_131_95 : PW B X 131 95 lv (.ref a :: st) h Q ↔ pm_O (pm_gf (pm_at B h a) 10 2) (fun v => PW B X 131 98 lv (v :: st) h Q) := PW_getf rfl rfl
theorem u_131_98 : PW B X 131 98 [v0, some (.int x), v2, v3, v4, v5, v6] (st) h Q ↔ PW B X 131 99 [v0, some (.int x), v2, v3, v4, v5, v6] (.int x :: st) h Q := PW_step rfl rfl rfl rfl
theorem u_131_99 : PW B X 131 99 lv (.int x :: .ref a :: st) h Q ↔ pm_O (pm_ldi 0 (pm_at B h a) x) (fun v => PW B X 131 100 lv (v :: st) h Q) := PW_iald rfl rfl
theorem u_131_100 : PW B X 131 100 [some (.ref a), v1, v2, v3, v4, v5, v6] (st) h Q ↔ PW B X 131 101 [some (.ref a), v1, v2, v3, v4, v5, v6] (.ref a :: st) h Q := PW_step rfl rfl rfl rfl
theorem u_131_100n : PW B X 131 100 [some .null, v1, v2, v3, v4, v5, v6] (st) h Q ↔ PW B X 131 101 [some .null, v1, v2, v3, v4, v5, v6] (.null :: st) h Q := PW_step rfl rfl rfl rfl
theorem u_131_101 : PW B X 131 101 lv (.ref a :: st) h Q ↔ pm_O (pm_gf (pm_at B h a) 10 2) (fun v => PW B X 131 104 lv (v :: st) h Q) := PW_getf rfl rfl
theorem u_131_104 : PW B X 131 104 [v0, v1, v2, some (.int x), v4, v5, v6] (st) h Q ↔ PW B X 131 105 [v0, v1, v2, some (.int x), v4, v5, v6] (.int x :: st) h Q := PW_step rfl rfl rfl rfl
theorem u_131_105 : PW B X 131 105 lv (.int x :: .ref a :: st) h Q ↔ pm_O (pm_ldi 0 (pm_at B h a) x) (fun v => PW B X 131 106 lv (v :: st) h Q) := PW_iald rfl rfl
theorem u_131_106 : PW B X 131 106 lv (.int y :: .int x :: st) h Q ↔ PW B X 131 107 lv (.int (x - y) :: st) h Q := PW_step rfl rfl rfl rfl
theorem u_131_107 : PW B X 131 107 [v0, v1, v2, v3, v4, v5, v6] (.int x :: st) h Q ↔ PW B X 131 109 [v0, v1, v2, v3, pm_c v4, some (.int x), v6] (st) h Q := PW_step rfl rfl rfl rfl
theorem u_131_109 : PW B X 131 109 [v0, v1, v2, v3, some (.int x), v5, v6] (st) h Q ↔ PW B X 131 111 [v0, v1, v2, v3, some (.int x), v5, v6] (.int x :: st) h Q := PW_step rfl rfl rfl rfl
theorem u_131_111 : PW B X 131 111 lv (.int x :: st) h Q ↔ PW B X 131 112 lv (.long x.toInt64 :: st) h Q := PW_step rfl rfl rfl rfl
theorem u_131_112 : PW B X 131 112 [v0, v1, v2, v3, v4, some (.int x), v6] (st) h Q ↔ PW B X 131 114 [v0, v1, v2, v3, v4, some (.int x), v6] (.int x :: st) h Q := PW_step rfl rfl rfl rfl
theorem u_131_114 : PW B X 131 114 lv (.int x :: st) h Q ↔ PW B X 131 115 lv (.long x.toInt64 :: st) h Q := PW_step rfl rfl rfl rfl
theorem u_131_115 : PW B X 131 115 lv (.long p1 :: .long p0 :: st) h Q ↔ (pm_w st ≤ 8 ∧ PW B X 129 0 [some (.long p0), none, some (.long p1), none, none, none, none, none, none, none] [] h (fun r h' => PW B X 131 118 lv (r.toList ++ st) h' Q)) := PW_cs (y := 129) (as := [.long p0, .long p1]) (rest := st) rfl rfl rfl rfl rfl ⟨Nat.le_of_ble_eq_true rfl, Nat.le_of_ble_eq_true rfl, Nat.le_of_ble_eq_true rfl⟩
theorem u_131_118 : PW B X 131 118 lv (.long z :: st) h Q ↔ PW B X 131 119 lv (.int z.toInt32 :: st) h Q := PW_step rfl rfl rfl rfl
theorem u_131_119 : PW B X 131 119 [v0, v1, v2, v3, v4, v5, v6] (.int x :: st) h Q ↔ PW B X 131 121 [v0, v1, v2, v3, v4, pm_c v5, some (.int x)] (st) h Q := PW_step rfl rfl rfl rfl
theorem u_131_121 : PW B X 131 121 [v0, v1, v2, v3, v4, v5, some (.int x)] (st) h Q ↔ PW B X 131 123 [v0, v1, v2, v3, v4, v5, some (.int x)] (.int x :: st) h Q := PW_step rfl rfl rfl rfl
theorem u_131_123 : PW B X 131 123 lv (.int x :: st) h Q ↔ (if ¬ x = 0 then PW B X 131 130 lv (st) h Q else PW B X 131 126 lv (st) h Q) := PW_if rfl rfl pm_c_ne
theorem u_131_126 : PW B X 131 126 lv (st) h Q ↔ PW B X 131 127 lv (.int 0 :: st) h Q := PW_step rfl rfl rfl rfl
theorem u_131_127 : PW B X 131 127 lv (st) h Q ↔ PW B X 131 147 lv (st) h Q := PW_step rfl rfl rfl rfl
theorem u_131_130 : PW B X 131 130 [v0, v1, some (.int x), v3, v4, v5, v6] (st) h Q ↔ PW B X 131 131 [v0, v1, some (.int x), v3, v4, v5, v6] (.int x :: st) h Q := PW_step rfl rfl rfl rfl
theorem u_131_131 : PW B X 131 131 lv (.int x :: st) h Q ↔ (if ¬ x = 0 then PW B X 131 142 lv (st) h Q else PW B X 131 134 lv (st) h Q) := PW_if rfl rfl pm_c_ne
theorem u_131_134 : PW B X 131 134 [v0, v1, v2, v3, some (.int x), v5, v6] (st) h Q ↔ PW B X 131 136 [v0, v1, v2, v3, some (.int x), v5, v6] (.int x :: st) h Q := PW_step rfl rfl rfl rfl
theorem u_131_136 : PW B X 131 136 [v0, v1, v2, v3, v4, v5, some (.int x)] (st) h Q ↔ PW B X 131 138 [v0, v1, v2, v3, v4, v5, some (.int x)] (.int x :: st) h Q := PW_step rfl rfl rfl rfl
theorem u_131_138 : PW B X 131 138 lv (.int y :: .int x :: st) h Q ↔ (¬ y = 0 ∧ PW B X 131 139 lv (.int (x / y) :: st) h Q) := PW_idiv rfl
theorem u_131_139 : PW B X 131 139 lv (st) h Q ↔ PW B X 131 147 lv (st) h Q := PW_step rfl rfl rfl rfl
theorem u_131_142 : PW B X 131 142 [v0, v1, v2, v3, v4, some (.int x), v6] (st) h Q ↔ PW B X 131 144 [v0, v1, v2, v3, v4, some (.int x), v6] (.int x :: st) h Q := PW_step rfl rfl rfl rfl
theorem u_131_144 : PW B X 131 144 [v0, v1, v2, v3, v4, v5, some (.int x)] (st) h Q ↔ PW B X 131 146 [v0, v1, v2, v3, v4, v5, some (.int x)] (.int x :: st) h Q := PW_step rfl rfl rfl rfl
theorem u_131_146 : PW B X 131 146 lv (.int y :: .int x :: st) h Q ↔ (¬ y = 0 ∧ PW B X 131 147 lv (.int (x / y) :: st) h Q) := PW_idiv rfl
theorem u_131_147 : PW B X 131 147 lv ([.int x]) h Q ↔ Q (some (.int x)) h := PW_ret rfl rfl
-- 132 Ref_joint
theorem u_132_0 : PW B X 132 0 [some (.ref a), v1, v2, v3, v4] (st) h Q ↔ PW B X 132 1 [some (.ref a), v1, v2, v3, v4] (.ref a :: st) h Q := PW_step rfl rfl rfl rfl
theorem u_132_0n : PW B X 132 0 [some .null, v1, v2, v3, v4] (st) h Q ↔ PW B X 132 1 [some .null, v1, v2, v3, v4] (.null :: st) h Q := PW_step rfl rfl rfl rfl
theorem u_132_1 : PW B X 132 1 [v0, some (.int x), v2, v3, v4] (st) h Q ↔ PW B X 132 2 [v0, some (.int x), v2, v3, v4] (.int x :: st) h Q := PW_step rfl rfl rfl rfl
theorem u_132_2 : PW B X 132 2 lv (.int q0 :: .ref a :: st) h Q ↔ (pm_w st ≤ 8 ∧ pm_io B h a 10 = true ∧ PW B X 96 0 [some (.ref a), some (.int q0)] [] h (fun r h' => PW B X 132 5 lv (r.toList ++ st) h' Q)) := PW_cv (y := 96) (as := [.int q0]) (rest := st) rfl rfl rfl rfl rfl ⟨Nat.le_of_ble_eq_true rfl, Nat.le_of_ble_eq_true rfl, Nat.le_of_ble_eq_true rfl⟩
theorem u_132_5 : PW B X 132 5 lv (.int x :: st) h Q ↔ (if x = 0 then PW B X 132 49 lv (st) h Q else PW B X 132 8 lv (st) h Q) := PW_if rfl rfl pm_c_eq
theorem u_132_8 : PW B X 132 8 [v0, v1, some (.int x), v3, v4] (st) h Q ↔ PW B X 132 9 [v0, v1, some (.int x), v3, v4] (.int x :: st) h Q := PW_step rfl rfl rfl rfl
theorem u_132_9 : PW B X 132 9 lv (.int x :: st) h Q ↔ PW B X 132 10 lv (.long x.toInt64 :: st) h Q := PW_step rfl rfl rfl rfl
theorem u_132_10 : PW B X 132 10 lv (st) h Q ↔ PW B X 132 11 lv (.long 0 :: st) h Q := PW_step rfl rfl rfl rfl
theorem u_132_11 : PW B X 132 11 lv (st) h Q ↔ PW B X 132 14 lv (.long 1000000 :: st) h Q := PW_step rfl rfl rfl rfl
theorem u_132_14 : PW B X 132 14 lv (.long p2 :: .long p1 :: .long p0 :: st) h Q ↔ (pm_w st ≤ 8 ∧ PW B X 94 0 [some (.long p0), none, some (.long p1), none, some (.long p2), none] [] h (fun r h' => PW B X 132 17 lv (r.toList ++ st) h' Q)) := PW_cs (y := 94) (as := [.long p0, .long p1, .long p2]) (rest := st) rfl rfl rfl rfl rfl ⟨Nat.le_of_ble_eq_true rfl, Nat.le_of_ble_eq_true rfl, Nat.le_of_ble_eq_true rfl⟩
theorem u_132_17 : PW B X 132 17 lv (.int x :: st) h Q ↔ (if x = 0 then PW B X 132 49 lv (st) h Q else PW B X 132 20 lv (st) h Q) := PW_if rfl rfl pm_c_eq
theorem u_132_20 : PW B X 132 20 [v0, v1, v2, some (.int x), v4] (st) h Q ↔ PW B X 132 21 [v0, v1, v2, some (.int x), v4] (.int x :: st) h Q := PW_step rfl rfl rfl rfl
theorem u_132_21 : PW B X 132 21 lv (.int x :: st) h Q ↔ PW B X 132 22 lv (.long x.toInt64 :: st) h Q := PW_step rfl rfl rfl rfl
theorem u_132_22 : PW B X 132 22 lv (st) h Q ↔ PW B X 132 25 lv (.long (-10000) :: st) h Q := PW_step rfl rfl rfl rfl
theorem u_132_25 : PW B X 132 25 lv (st) h Q ↔ PW B X 132 28 lv (.long 10000 :: st) h Q := PW_step rfl rfl rfl rfl
theorem u_132_28 : PW B X 132 28 lv (.long p2 :: .long p1 :: .long p0 :: st) h Q ↔ (pm_w st ≤ 8 ∧ PW B X 94 0 [some (.long p0), none, some (.long p1), none, some (.long p2), none] [] h (fun r h' => PW B X 132 31 lv (r.toList ++ st) h' Q)) := PW_cs (y := 94) (as := [.long p0, .long p1, .long p2]) (rest := st) rfl rfl rfl rfl rfl ⟨Nat.le_of_ble_eq_true rfl, Nat.le_of_ble_eq_true rfl, Nat.le_of_ble_eq_true rfl⟩
theorem u_132_31 : PW B X 132 31 lv (.int x :: st) h Q ↔ (if x = 0 then PW B X 132 49 lv (st) h Q else PW B X 132 34 lv (st) h Q) := PW_if rfl rfl pm_c_eq
theorem u_132_34 : PW B X 132 34 [v0, v1, v2, v3, some (.int x)] (st) h Q ↔ PW B X 132 36 [v0, v1, v2, v3, some (.int x)] (.int x :: st) h Q := PW_step rfl rfl rfl rfl
theorem u_132_36 : PW B X 132 36 lv (.int x :: st) h Q ↔ PW B X 132 37 lv (.long x.toInt64 :: st) h Q := PW_step rfl rfl rfl rfl
theorem u_132_37 : PW B X 132 37 lv (st) h Q ↔ PW B X 132 40 lv (.long (-600) :: st) h Q := PW_step rfl rfl rfl rfl
theorem u_132_40 : PW B X 132 40 lv (st) h Q ↔ PW B X 132 43 lv (.long 900 :: st) h Q := PW_step rfl rfl rfl rfl
theorem u_132_43 : PW B X 132 43 lv (.long p2 :: .long p1 :: .long p0 :: st) h Q ↔ (pm_w st ≤ 8 ∧ PW B X 94 0 [some (.long p0), none, some (.long p1), none, some (.long p2), none] [] h (fun r h' => PW B X 132 46 lv (r.toList ++ st) h' Q)) := PW_cs (y := 94) (as := [.long p0, .long p1, .long p2]) (rest := st) rfl rfl rfl rfl rfl ⟨Nat.le_of_ble_eq_true rfl, Nat.le_of_ble_eq_true rfl, Nat.le_of_ble_eq_true rfl⟩
theorem u_132_46 : PW B X 132 46 lv (.int x :: st) h Q ↔ (if ¬ x = 0 then PW B X 132 51 lv (st) h Q else PW B X 132 49 lv (st) h Q) := PW_if rfl rfl pm_c_ne
theorem u_132_49 : PW B X 132 49 lv (st) h Q ↔ PW B X 132 50 lv (.int 0 :: st) h Q := PW_step rfl rfl rfl rfl
theorem u_132_50 (hx : narrow .boolean (.int x) = .int x) : PW B X 132 50 lv ([.int x]) h Q ↔ Q (some (.int x)) h := PW_bret rfl rfl (by simp) hx
theorem u_132_50_0 : PW B X 132 50 lv ([.int 0]) h Q ↔ Q (some (.int 0)) h := u_132_50 rfl
theorem u_132_50_1 : PW B X 132 50 lv ([.int 1]) h Q ↔ Q (some (.int 1)) h := u_132_50 rfl
theorem u_132_51 : PW B X 132 51 [some (.ref a), v1, v2, v3, v4] (st) h Q ↔ PW B X 132 52 [some (.ref a), v1, v2, v3, v4] (.ref a :: st) h Q := PW_step rfl rfl rfl rfl
theorem u_132_51n : PW B X 132 51 [some .null, v1, v2, v3, v4] (st) h Q ↔ PW B X 132 52 [some .null, v1, v2, v3, v4] (.null :: st) h Q := PW_step rfl rfl rfl rfl
theorem u_132_52 : PW B X 132 52 lv (.ref a :: st) h Q ↔ pm_O (pm_gf (pm_at B h a) 10 16) (fun v => PW B X 132 55 lv (v :: st) h Q) := PW_getf rfl rfl
theorem u_132_55 : PW B X 132 55 [v0, some (.int x), v2, v3, v4] (st) h Q ↔ PW B X 132 56 [v0, some (.int x), v2, v3, v4] (.int x :: st) h Q := PW_step rfl rfl rfl rfl
theorem u_132_56 : PW B X 132 56 [v0, v1, some (.int x), v3, v4] (st) h Q ↔ PW B X 132 57 [v0, v1, some (.int x), v3, v4] (.int x :: st) h Q := PW_step rfl rfl rfl rfl
theorem u_132_57 : PW B X 132 57 lv (.int y :: .int x :: .ref a :: st) h Q ↔ pm_O (pm_sti 0 (pm_at B h a) x y) (fun e => PW B X 132 58 lv (st) (pm_set B h a e) Q) := PW_iast rfl
theorem u_132_58 : PW B X 132 58 [some (.ref a), v1, v2, v3, v4] (st) h Q ↔ PW B X 132 59 [some (.ref a), v1, v2, v3, v4] (.ref a :: st) h Q := PW_step rfl rfl rfl rfl
theorem u_132_58n : PW B X 132 58 [some .null, v1, v2, v3, v4] (st) h Q ↔ PW B X 132 59 [some .null, v1, v2, v3, v4] (.null :: st) h Q := PW_step rfl rfl rfl rfl
theorem u_132_59 : PW B X 132 59 lv (.ref a :: st) h Q ↔ pm_O (pm_gf (pm_at B h a) 10 17) (fun v => PW B X 132 62 lv (v :: st) h Q) := PW_getf rfl rfl
theorem u_132_62 : PW B X 132 62 [v0, some (.int x), v2, v3, v4] (st) h Q ↔ PW B X 132 63 [v0, some (.int x), v2, v3, v4] (.int x :: st) h Q := PW_step rfl rfl rfl rfl
theorem u_132_63 : PW B X 132 63 [v0, v1, v2, some (.int x), v4] (st) h Q ↔ PW B X 132 64 [v0, v1, v2, some (.int x), v4] (.int x :: st) h Q := PW_step rfl rfl rfl rfl
theorem u_132_64 : PW B X 132 64 lv (.int y :: .int x :: .ref a :: st) h Q ↔ pm_O (pm_sti 0 (pm_at B h a) x y) (fun e => PW B X 132 65 lv (st) (pm_set B h a e) Q) := PW_iast rfl
theorem u_132_65 : PW B X 132 65 [some (.ref a), v1, v2, v3, v4] (st) h Q ↔ PW B X 132 66 [some (.ref a), v1, v2, v3, v4] (.ref a :: st) h Q := PW_step rfl rfl rfl rfl
theorem u_132_65n : PW B X 132 65 [some .null, v1, v2, v3, v4] (st) h Q ↔ PW B X 132 66 [some .null, v1, v2, v3, v4] (.null :: st) h Q := PW_step rfl rfl rfl rfl
theorem u_132_66 : PW B X 132 66 lv (.ref a :: st) h Q ↔ pm_O (pm_gf (pm_at B h a) 10 18) (fun v => PW B X 132 69 lv (v :: st) h Q) := PW_getf rfl rfl
theorem u_132_69 : PW B X 132 69 [v0, some (.int x), v2, v3, v4] (st) h Q ↔ PW B X 132 70 [v0, some (.int x), v2, v3, v4] (.int x :: st) h Q := PW_step rfl rfl rfl rfl
theorem u_132_70 : PW B X 132 70 [v0, v1, v2, v3, some (.int x)] (st) h Q ↔ PW B X 132 72 [v0, v1, v2, v3, some (.int x)] (.int x :: st) h Q := PW_step rfl rfl rfl rfl
theorem u_132_72 : PW B X 132 72 lv (.int y :: .int x :: .ref a :: st) h Q ↔ pm_O (pm_sti 0 (pm_at B h a) x y) (fun e => PW B X 132 73 lv (st) (pm_set B h a e) Q) := PW_iast rfl
theorem u_132_73 : PW B X 132 73 lv (st) h Q ↔ PW B X 132 74 lv (.int 1 :: st) h Q := PW_step rfl rfl rfl rfl
theorem u_132_74 (hx : narrow .boolean (.int x) = .int x) : PW B X 132 74 lv ([.int x]) h Q ↔ Q (some (.int x)) h := PW_bret rfl rfl (by simp) hx
theorem u_132_74_0 : PW B X 132 74 lv ([.int 0]) h Q ↔ Q (some (.int 0)) h := u_132_74 rfl
theorem u_132_74_1 : PW B X 132 74 lv ([.int 1]) h Q ↔ Q (some (.int 1)) h := u_132_74 rfl
-- 133 Ref_gap
theorem u_133_0 : PW B X 133 0 [some (.ref a), v1, v2, v3] (st) h Q ↔ PW B X 133 1 [some (.ref a), v1, v2, v3] (.ref a :: st) h Q := PW_step rfl rfl rfl rfl
theorem u_133_0n : PW B X 133 0 [some .null, v1, v2, v3] (st) h Q ↔ PW B X 133 1 [some .null, v1, v2, v3] (.null :: st) h Q := PW_step rfl rfl rfl rfl
theorem u_133_1 : PW B X 133 1 [v0, some (.int x), v2, v3] (st) h Q ↔ PW B X 133 2 [v0, some (.int x), v2, v3] (.int x :: st) h Q := PW_step rfl rfl rfl rfl
theorem u_133_2 : PW B X 133 2 lv (.int q0 :: .ref a :: st) h Q ↔ (pm_w st ≤ 8 ∧ pm_io B h a 10 = true ∧ PW B X 96 0 [some (.ref a), some (.int q0)] [] h (fun r h' => PW B X 133 5 lv (r.toList ++ st) h' Q)) := PW_cv (y := 96) (as := [.int q0]) (rest := st) rfl rfl rfl rfl rfl ⟨Nat.le_of_ble_eq_true rfl, Nat.le_of_ble_eq_true rfl, Nat.le_of_ble_eq_true rfl⟩
theorem u_133_5 : PW B X 133 5 lv (.int x :: st) h Q ↔ (if x = 0 then PW B X 133 27 lv (st) h Q else PW B X 133 8 lv (st) h Q) := PW_if rfl rfl pm_c_eq
theorem u_133_8 : PW B X 133 8 [v0, v1, some (.int x), v3] (st) h Q ↔ PW B X 133 9 [v0, v1, some (.int x), v3] (.int x :: st) h Q := PW_step rfl rfl rfl rfl
theorem u_133_9 : PW B X 133 9 lv (.int x :: st) h Q ↔ PW B X 133 10 lv (.long x.toInt64 :: st) h Q := PW_step rfl rfl rfl rfl
theorem u_133_10 : PW B X 133 10 lv (st) h Q ↔ PW B X 133 13 lv (.long (-600) :: st) h Q := PW_step rfl rfl rfl rfl
theorem u_133_13 : PW B X 133 13 lv (st) h Q ↔ PW B X 133 16 lv (.long 900 :: st) h Q := PW_step rfl rfl rfl rfl
theorem u_133_16 : PW B X 133 16 lv (.long p2 :: .long p1 :: .long p0 :: st) h Q ↔ (pm_w st ≤ 8 ∧ PW B X 94 0 [some (.long p0), none, some (.long p1), none, some (.long p2), none] [] h (fun r h' => PW B X 133 19 lv (r.toList ++ st) h' Q)) := PW_cs (y := 94) (as := [.long p0, .long p1, .long p2]) (rest := st) rfl rfl rfl rfl rfl ⟨Nat.le_of_ble_eq_true rfl, Nat.le_of_ble_eq_true rfl, Nat.le_of_ble_eq_true rfl⟩
theorem u_133_19 : PW B X 133 19 lv (.int x :: st) h Q ↔ (if x = 0 then PW B X 133 27 lv (st) h Q else PW B X 133 22 lv (st) h Q) := PW_if rfl rfl pm_c_eq
theorem u_133_22 : PW B X 133 22 [v0, v1, v2, some (.int x)] (st) h Q ↔ PW B X 133 23 [v0, v1, v2, some (.int x)] (.int x :: st) h Q := PW_step rfl rfl rfl rfl
theorem u_133_23 : PW B X 133 23 lv (st) h Q ↔ PW B X 133 24 lv (.int (-1) :: st) h Q := PW_step rfl rfl rfl rfl
theorem u_133_24 : PW B X 133 24 lv (.int y :: .int x :: st) h Q ↔ (if y ≤ x then PW B X 133 42 lv (st) h Q else PW B X 133 27 lv (st) h Q) := PW_icmp rfl rfl pm_c_ge
theorem u_133_27 : PW B X 133 27 [v0, v1, v2, some (.int x)] (st) h Q ↔ PW B X 133 28 [v0, v1, v2, some (.int x)] (.int x :: st) h Q := PW_step rfl rfl rfl rfl
theorem u_133_28 : PW B X 133 28 lv (st) h Q ↔ PW B X 133 29 lv (.int (-1) :: st) h Q := PW_step rfl rfl rfl rfl
theorem u_133_29 : PW B X 133 29 lv (.int y :: .int x :: st) h Q ↔ (if ¬ x = y then PW B X 133 38 lv (st) h Q else PW B X 133 32 lv (st) h Q) := PW_icmp rfl rfl pm_c_ne
theorem u_133_32 : PW B X 133 32 lv (st) h Q ↔ PW B X 133 35 lv (.long (-2) :: st) h Q := PW_step rfl rfl rfl rfl
theorem u_133_35 : PW B X 133 35 lv (st) h Q ↔ PW B X 133 41 lv (st) h Q := PW_step rfl rfl rfl rfl
theorem u_133_38 : PW B X 133 38 lv (st) h Q ↔ PW B X 133 41 lv (.long (-1) :: st) h Q := PW_step rfl rfl rfl rfl
theorem u_133_41 : PW B X 133 41 lv ([.long z]) h Q ↔ Q (some (.long z)) h := PW_ret rfl rfl
theorem u_133_42 : PW B X 133 42 lv (st) h Q ↔ PW B X 133 45 lv (.long 10000 :: st) h Q := PW_step rfl rfl rfl rfl
theorem u_133_45 : PW B X 133 45 [some (.ref a), v1, v2, v3] (st) h Q ↔ PW B X 133 46 [some (.ref a), v1, v2, v3] (.ref a :: st) h Q := PW_step rfl rfl rfl rfl
theorem u_133_45n : PW B X 133 45 [some .null, v1, v2, v3] (st) h Q ↔ PW B X 133 46 [some .null, v1, v2, v3] (.null :: st) h Q := PW_step rfl rfl rfl rfl
theorem u_133_46 : PW B X 133 46 lv (.ref a :: st) h Q ↔ pm_O (pm_gf (pm_at B h a) 10 17) (fun v => PW B X 133 49 lv (v :: st) h Q) := PW_getf rfl rfl
theorem u_133_49 : PW B X 133 49 [v0, some (.int x), v2, v3] (st) h Q ↔ PW B X 133 50 [v0, some (.int x), v2, v3] (.int x :: st) h Q := PW_step rfl rfl rfl rfl
theorem u_133_50 : PW B X 133 50 lv (.int x :: .ref a :: st) h Q ↔ pm_O (pm_ldi 0 (pm_at B h a) x) (fun v => PW B X 133 51 lv (v :: st) h Q) := PW_iald rfl rfl
theorem u_133_51 : PW B X 133 51 lv (.int x :: st) h Q ↔ PW B X 133 52 lv (.long x.toInt64 :: st) h Q := PW_step rfl rfl rfl rfl
theorem u_133_52 : PW B X 133 52 lv (.long w :: .long z :: st) h Q ↔ PW B X 133 53 lv (.long (z * w) :: st) h Q := PW_step rfl rfl rfl rfl
theorem u_133_53 : PW B X 133 53 lv (st) h Q ↔ PW B X 133 56 lv (.long 12 :: st) h Q := PW_step rfl rfl rfl rfl
theorem u_133_56 : PW B X 133 56 [some (.ref a), v1, v2, v3] (st) h Q ↔ PW B X 133 57 [some (.ref a), v1, v2, v3] (.ref a :: st) h Q := PW_step rfl rfl rfl rfl
theorem u_133_56n : PW B X 133 56 [some .null, v1, v2, v3] (st) h Q ↔ PW B X 133 57 [some .null, v1, v2, v3] (.null :: st) h Q := PW_step rfl rfl rfl rfl
theorem u_133_57 : PW B X 133 57 lv (.ref a :: st) h Q ↔ pm_O (pm_gf (pm_at B h a) 10 16) (fun v => PW B X 133 60 lv (v :: st) h Q) := PW_getf rfl rfl
theorem u_133_60 : PW B X 133 60 [v0, some (.int x), v2, v3] (st) h Q ↔ PW B X 133 61 [v0, some (.int x), v2, v3] (.int x :: st) h Q := PW_step rfl rfl rfl rfl
theorem u_133_61 : PW B X 133 61 lv (.int x :: .ref a :: st) h Q ↔ pm_O (pm_ldi 0 (pm_at B h a) x) (fun v => PW B X 133 62 lv (v :: st) h Q) := PW_iald rfl rfl
theorem u_133_62 : PW B X 133 62 lv (.int x :: st) h Q ↔ PW B X 133 63 lv (.long x.toInt64 :: st) h Q := PW_step rfl rfl rfl rfl
theorem u_133_63 : PW B X 133 63 lv (.long w :: .long z :: st) h Q ↔ PW B X 133 64 lv (.long (z * w) :: st) h Q := PW_step rfl rfl rfl rfl
theorem u_133_64 : PW B X 133 64 [v0, v1, some (.int x), v3] (st) h Q ↔ PW B X 133 65 [v0, v1, some (.int x), v3] (.int x :: st) h Q := PW_step rfl rfl rfl rfl
theorem u_133_65 : PW B X 133 65 [some (.ref a), v1, v2, v3] (st) h Q ↔ PW B X 133 66 [some (.ref a), v1, v2, v3] (.ref a :: st) h Q := PW_step rfl rfl rfl rfl
theorem u_133_65n : PW B X 133 65 [some .null, v1, v2, v3] (st) h Q ↔ PW B X 133 66 [some .null, v1, v2, v3] (.null :: st) h Q := PW_step rfl rfl rfl rfl
theorem u_133_66 : PW B X 133 66 lv (.ref a :: st) h Q ↔ pm_O (pm_gf (pm_at B h a) 10 18) (fun v => PW B X 133 69 lv (v :: st) h Q) := PW_getf rfl rfl
theorem u_133_69 : PW B X 133 69 [v0, some (.int x), v2, v3] (st) h Q ↔ PW B X 133 70 [v0, some (.int x), v2, v3] (.int x :: st) h Q := PW_step rfl rfl rfl rfl
theorem u_133_70 : PW B X 133 70 lv (.int x :: .ref a :: st) h Q ↔ pm_O (pm_ldi 0 (pm_at B h a) x) (fun v => PW B X 133 71 lv (v :: st) h Q) := PW_iald rfl rfl
theorem u_133_71 : PW B X 133 71 lv (.int y :: .int x :: st) h Q ↔ PW B X 133 72 lv (.int (x - y) :: st) h Q := PW_step rfl rfl rfl rfl
theorem u_133_72 : PW B X 133 72 lv (.int x :: st) h Q ↔ PW B X 133 73 lv (.long x.toInt64 :: st) h Q := PW_step rfl rfl rfl rfl
theorem u_133_73 : PW B X 133 73 lv (.long w :: .long z :: st) h Q ↔ PW B X 133 74 lv (.long (z * w) :: st) h Q := PW_step rfl rfl rfl rfl
theorem u_133_74 : PW B X 133 74 lv (.long w :: .long z :: st) h Q ↔ PW B X 133 75 lv (.long (z - w) :: st) h Q := PW_step rfl rfl rfl rfl
theorem u_133_75 : PW B X 133 75 [v0, v1, v2, some (.int x)] (st) h Q ↔ PW B X 133 76 [v0, v1, v2, some (.int x)] (.int x :: st) h Q := PW_step rfl rfl rfl rfl
theorem u_133_76 : PW B X 133 76 lv (.int q1 :: .long p0 :: st) h Q ↔ (pm_w st ≤ 8 ∧ PW B X 134 0 [some (.long p0), none, some (.int q1), none, none, none, none] [] h (fun r h' => PW B X 133 79 lv (r.toList ++ st) h' Q)) := PW_cs (y := 134) (as := [.long p0, .int q1]) (rest := st) rfl rfl rfl rfl rfl ⟨Nat.le_of_ble_eq_true rfl, Nat.le_of_ble_eq_true rfl, Nat.le_of_ble_eq_true rfl⟩
theorem u_133_79 : PW B X 133 79 lv ([.long z]) h Q ↔ Q (some (.long z)) h := PW_ret rfl rfl
-- 134 Ref_ofMillionths
theorem u_134_0 : PW B X 134 0 [some (.long z), v1, v2, v3, v4, v5, v6] (st) h Q ↔ PW B X 134 1 [some (.long z), v1, v2, v3, v4, v5, v6] (.long z :: st) h Q := PW_step rfl rfl rfl rfl
theorem u_134_1 : PW B X 134 1 lv (st) h Q ↔ PW B X 134 4 lv (.long 10000000 :: st) h Q := PW_step rfl rfl rfl rfl
theorem u_134_4 : PW B X 134 4 lv (.long p1 :: .long p0 :: st) h Q ↔ (pm_w st ≤ 8 ∧ PW B X 129 0 [some (.long p0), none, some (.long p1), none, none, none, none, none, none, none] [] h (fun r h' => PW B X 134 7 lv (r.toList ++ st) h' Q)) := PW_cs (y := 129) (as := [.long p0, .long p1]) (rest := st) rfl rfl rfl rfl rfl ⟨Nat.le_of_ble_eq_true rfl, Nat.le_of_ble_eq_true rfl, Nat.le_of_ble_eq_true rfl⟩
theorem u_134_7 : PW B X 134 7 [v0, v1, v2, v3, v4, v5, v6] (.long z :: st) h Q ↔ PW B X 134 8 [v0, v1, pm_c v2, some (.long z), none, v5, v6] (st) h Q := PW_step rfl rfl rfl rfl
theorem u_134_8 : PW B X 134 8 [some (.long z), v1, v2, v3, v4, v5, v6] (st) h Q ↔ PW B X 134 9 [some (.long z), v1, v2, v3, v4, v5, v6] (.long z :: st) h Q := PW_step rfl rfl rfl rfl
theorem u_134_9 : PW B X 134 9 lv (st) h Q ↔ PW B X 134 10 lv (.long 0 :: st) h Q := PW_step rfl rfl rfl rfl
theorem u_134_10 : PW B X 134 10 lv (.long w :: .long z :: st) h Q ↔ PW B X 134 11 lv (.int (lg_cmp z w) :: st) h Q := PW_step rfl rfl rfl rfl
theorem u_134_11 : PW B X 134 11 lv (.int x :: st) h Q ↔ (if 0 ≤ x then PW B X 134 19 lv (st) h Q else PW B X 134 14 lv (st) h Q) := PW_if rfl rfl pm_c_ge
theorem u_134_14 : PW B X 134 14 [some (.long z), v1, v2, v3, v4, v5, v6] (st) h Q ↔ PW B X 134 15 [some (.long z), v1, v2, v3, v4, v5, v6] (.long z :: st) h Q := PW_step rfl rfl rfl rfl
theorem u_134_15 : PW B X 134 15 lv (.long z :: st) h Q ↔ PW B X 134 16 lv (.long (-z) :: st) h Q := PW_step rfl rfl rfl rfl
theorem u_134_16 : PW B X 134 16 lv (st) h Q ↔ PW B X 134 20 lv (st) h Q := PW_step rfl rfl rfl rfl
theorem u_134_19 : PW B X 134 19 [some (.long z), v1, v2, v3, v4, v5, v6] (st) h Q ↔ PW B X 134 20 [some (.long z), v1, v2, v3, v4, v5, v6] (.long z :: st) h Q := PW_step rfl rfl rfl rfl
theorem u_134_20 : PW B X 134 20 [v0, v1, v2, v3, v4, v5, v6] (.long z :: st) h Q ↔ PW B X 134 22 [v0, v1, v2, v3, pm_c v4, some (.long z), none] (st) h Q := PW_step rfl rfl rfl rfl
theorem u_134_22 : PW B X 134 22 [v0, v1, some (.int x), v3, v4, v5, v6] (st) h Q ↔ PW B X 134 23 [v0, v1, some (.int x), v3, v4, v5, v6] (.int x :: st) h Q := PW_step rfl rfl rfl rfl
theorem u_134_23 : PW B X 134 23 lv (st) h Q ↔ PW B X 134 24 lv (.int (-1) :: st) h Q := PW_step rfl rfl rfl rfl
theorem u_134_24 : PW B X 134 24 lv (.int y :: .int x :: st) h Q ↔ (if ¬ x = y then PW B X 134 53 lv (st) h Q else PW B X 134 27 lv (st) h Q) := PW_icmp rfl rfl pm_c_ne
theorem u_134_27 : PW B X 134 27 [some (.long z), v1, v2, v3, v4, v5, v6] (st) h Q ↔ PW B X 134 28 [some (.long z), v1, v2, v3, v4, v5, v6] (.long z :: st) h Q := PW_step rfl rfl rfl rfl
theorem u_134_28 : PW B X 134 28 lv (st) h Q ↔ PW B X 134 29 lv (.long 0 :: st) h Q := PW_step rfl rfl rfl rfl
theorem u_134_29 : PW B X 134 29 lv (.long w :: .long z :: st) h Q ↔ PW B X 134 30 lv (.int (lg_cmp z w) :: st) h Q := PW_step rfl rfl rfl rfl
theorem u_134_30 : PW B X 134 30 lv (.int x :: st) h Q ↔ (if 0 ≤ x then PW B X 134 39 lv (st) h Q else PW B X 134 33 lv (st) h Q) := PW_if rfl rfl pm_c_ge
theorem u_134_33 : PW B X 134 33 lv (st) h Q ↔ PW B X 134 36 lv (.long (-1) :: st) h Q := PW_step rfl rfl rfl rfl
theorem u_134_36 : PW B X 134 36 lv (st) h Q ↔ PW B X 134 78 lv (st) h Q := PW_step rfl rfl rfl rfl
theorem u_134_39 : PW B X 134 39 [some (.long z), v1, v2, v3, v4, v5, v6] (st) h Q ↔ PW B X 134 40 [some (.long z), v1, v2, v3, v4, v5, v6] (.long z :: st) h Q := PW_step rfl rfl rfl rfl
theorem u_134_40 : PW B X 134 40 lv (st) h Q ↔ PW B X 134 41 lv (.long 0 :: st) h Q := PW_step rfl rfl rfl rfl
theorem u_134_41 : PW B X 134 41 lv (.long w :: .long z :: st) h Q ↔ PW B X 134 42 lv (.int (lg_cmp z w) :: st) h Q := PW_step rfl rfl rfl rfl
theorem u_134_42 : PW B X 134 42 lv (.int x :: st) h Q ↔ (if x ≤ 0 then PW B X 134 49 lv (st) h Q else PW B X 134 45 lv (st) h Q) := PW_if rfl rfl pm_c_le
theorem u_134_45 : PW B X 134 45 lv (st) h Q ↔ PW B X 134 46 lv (.long 1 :: st) h Q := PW_step rfl rfl rfl rfl
theorem u_134_46 : PW B X 134 46 lv (st) h Q ↔ PW B X 134 78 lv (st) h Q := PW_step rfl rfl rfl rfl
theorem u_134_49 : PW B X 134 49 lv (st) h Q ↔ PW B X 134 50 lv (.long 0 :: st) h Q := PW_step rfl rfl rfl rfl
theorem u_134_50 : PW B X 134 50 lv (st) h Q ↔ PW B X 134 78 lv (st) h Q := PW_step rfl rfl rfl rfl
theorem u_134_53 : PW B X 134 53 [v0, v1, some (.int x), v3, v4, v5, v6] (st) h Q ↔ PW B X 134 54 [v0, v1, some (.int x), v3, v4, v5, v6] (.int x :: st) h Q := PW_step rfl rfl rfl rfl
theorem u_134_54 : PW B X 134 54 lv (.int x :: st) h Q ↔ (if ¬ x = 0 then PW B X 134 64 lv (st) h Q else PW B X 134 57 lv (st) h Q) := PW_if rfl rfl pm_c_ne
theorem u_134_57 : PW B X 134 57 [v0, v1, v2, v3, v4, some (.long z), v6] (st) h Q ↔ PW B X 134 59 [v0, v1, v2, v3, v4, some (.long z), v6] (.long z :: st) h Q := PW_step rfl rfl rfl rfl
theorem u_134_59 : PW B X 134 59 [v0, v1, v2, some (.long z), v4, v5, v6] (st) h Q ↔ PW B X 134 60 [v0, v1, v2, some (.long z), v4, v5, v6] (.long z :: st) h Q := PW_step rfl rfl rfl rfl
theorem u_134_60 : PW B X 134 60 lv (.long w :: .long z :: st) h Q ↔ (¬ w = 0 ∧ PW B X 134 61 lv (.long (z / w) :: st) h Q) := PW_ldiv rfl
theorem u_134_61 : PW B X 134 61 lv (st) h Q ↔ PW B X 134 78 lv (st) h Q := PW_step rfl rfl rfl rfl
theorem u_134_64 : PW B X 134 64 [v0, v1, some (.int x), v3, v4, v5, v6] (st) h Q ↔ PW B X 134 65 [v0, v1, some (.int x), v3, v4, v5, v6] (.int x :: st) h Q := PW_step rfl rfl rfl rfl
theorem u_134_65 : PW B X 134 65 lv (st) h Q ↔ PW B X 134 66 lv (.int 1 :: st) h Q := PW_step rfl rfl rfl rfl
theorem u_134_66 : PW B X 134 66 lv (.int y :: .int x :: st) h Q ↔ (if ¬ x = y then PW B X 134 77 lv (st) h Q else PW B X 134 69 lv (st) h Q) := PW_icmp rfl rfl pm_c_ne
theorem u_134_69 : PW B X 134 69 lv (st) h Q ↔ PW B X 134 72 lv (.long 10000000 :: st) h Q := PW_step rfl rfl rfl rfl
theorem u_134_72 : PW B X 134 72 [v0, v1, v2, some (.long z), v4, v5, v6] (st) h Q ↔ PW B X 134 73 [v0, v1, v2, some (.long z), v4, v5, v6] (.long z :: st) h Q := PW_step rfl rfl rfl rfl
theorem u_134_73 : PW B X 134 73 lv (.long w :: .long z :: st) h Q ↔ (¬ w = 0 ∧ PW B X 134 74 lv (.long (z / w) :: st) h Q) := PW_ldiv rfl
theorem u_134_74 : PW B X 134 74 lv (st) h Q ↔ PW B X 134 78 lv (st) h Q := PW_step rfl rfl rfl rfl
theorem u_134_77 : PW B X 134 77 lv (st) h Q ↔ PW B X 134 78 lv (.long 0 :: st) h Q := PW_step rfl rfl rfl rfl
theorem u_134_78 : PW B X 134 78 lv ([.long z]) h Q ↔ Q (some (.long z)) h := PW_ret rfl rfl
-- 135 Ref_day
theorem u_135_0 : PW B X 135 0 [v0, some (.int x)] (st) h Q ↔ PW B X 135 1 [v0, some (.int x)] (.int x :: st) h Q := PW_step rfl rfl rfl rfl
theorem u_135_1 : PW B X 135 1 lv (.int x :: st) h Q ↔ PW B X 135 2 lv (.long x.toInt64 :: st) h Q := PW_step rfl rfl rfl rfl
theorem u_135_2 : PW B X 135 2 lv (st) h Q ↔ PW B X 135 5 lv (.long (-600) :: st) h Q := PW_step rfl rfl rfl rfl
theorem u_135_5 : PW B X 135 5 lv (st) h Q ↔ PW B X 135 8 lv (.long 900 :: st) h Q := PW_step rfl rfl rfl rfl
theorem u_135_8 : PW B X 135 8 lv (.long p2 :: .long p1 :: .long p0 :: st) h Q ↔ (pm_w st ≤ 8 ∧ PW B X 94 0 [some (.long p0), none, some (.long p1), none, some (.long p2), none] [] h (fun r h' => PW B X 135 11 lv (r.toList ++ st) h' Q)) := PW_cs (y := 94) (as := [.long p0, .long p1, .long p2]) (rest := st) rfl rfl rfl rfl rfl ⟨Nat.le_of_ble_eq_true rfl, Nat.le_of_ble_eq_true rfl, Nat.le_of_ble_eq_true rfl⟩
theorem u_135_11 : PW B X 135 11 lv (.int x :: st) h Q ↔ (if x = 0 then PW B X 135 24 lv (st) h Q else PW B X 135 14 lv (st) h Q) := PW_if rfl rfl pm_c_eq
theorem u_135_14 : PW B X 135 14 [some (.ref a), v1] (st) h Q ↔ PW B X 135 15 [some (.ref a), v1] (.ref a :: st) h Q := PW_step rfl rfl rfl rfl
theorem u_135_14n : PW B X 135 14 [some .null, v1] (st) h Q ↔ PW B X 135 15 [some .null, v1] (.null :: st) h Q := PW_step rfl rfl rfl rfl
theorem u_135_15 : PW B X 135 15 lv (.ref a :: st) h Q ↔ pm_O (pm_gf (pm_at B h a) 10 19) (fun v => PW B X 135 18 lv (v :: st) h Q) := PW_getf rfl rfl
theorem u_135_18 : PW B X 135 18 lv (st) h Q ↔ PW B X 135 21 lv (.int 400 :: st) h Q := PW_step rfl rfl rfl rfl
theorem u_135_21 : PW B X 135 21 lv (.int y :: .int x :: st) h Q ↔ (if ¬ x = y then PW B X 135 26 lv (st) h Q else PW B X 135 24 lv (st) h Q) := PW_icmp rfl rfl pm_c_ne
theorem u_135_24 : PW B X 135 24 lv (st) h Q ↔ PW B X 135 25 lv (.int (-1) :: st) h Q := PW_step rfl rfl rfl rfl
theorem u_135_25 : PW B X 135 25 lv ([.int x]) h Q ↔ Q (some (.int x)) h := PW_ret rfl rfl
theorem u_135_26 : PW B X 135 26 [some (.ref a), v1] (st) h Q ↔ PW B X 135 27 [some (.ref a), v1] (.ref a :: st) h Q := PW_step rfl rfl rfl rfl
theorem u_135_26n : PW B X 135 26 [some .null, v1] (st) h Q ↔ PW B X 135 27 [some .null, v1] (.null :: st) h Q := PW_step rfl rfl rfl rfl
theorem u_135_27 : PW B X 135 27 lv (.ref a :: st) h Q ↔ pm_O (pm_gf (pm_at B h a) 10 20) (fun v => PW B X 135 30 lv (v :: st) h Q) := PW_getf rfl rfl
theorem u_135_30 : PW B X 135 30 [some (.ref a), v1] (st) h Q ↔ PW B X 135 31 [some (.ref a), v1] (.ref a :: st) h Q := PW_step rfl rfl rfl rfl
theorem u_135_30n : PW B X 135 30 [some .null, v1] (st) h Q ↔ PW B X 135 31 [some .null, v1] (.null :: st) h Q := PW_step rfl rfl rfl rfl
theorem u_135_31 : PW B X 135 31 lv (.ref a :: st) h Q ↔ pm_O (pm_gf (pm_at B h a) 10 19) (fun v => PW B X 135 34 lv (v :: st) h Q) := PW_getf rfl rfl
theorem u_135_34 : PW B X 135 34 [v0, some (.int x)] (st) h Q ↔ PW B X 135 35 [v0, some (.int x)] (.int x :: st) h Q := PW_step rfl rfl rfl rfl
theorem u_135_35 : PW B X 135 35 lv (.int y :: .int x :: .ref a :: st) h Q ↔ pm_O (pm_sti 0 (pm_at B h a) x y) (fun e => PW B X 135 36 lv (st) (pm_set B h a e) Q) := PW_iast rfl
theorem u_135_36 : PW B X 135 36 [some (.ref a), v1] (st) h Q ↔ PW B X 135 37 [some (.ref a), v1] (.ref a :: st) h Q := PW_step rfl rfl rfl rfl
theorem u_135_36n : PW B X 135 36 [some .null, v1] (st) h Q ↔ PW B X 135 37 [some .null, v1] (.null :: st) h Q := PW_step rfl rfl rfl rfl
theorem u_135_37 : PW B X 135 37 lv (.ref a :: st) h Q ↔ PW B X 135 38 lv (.ref a :: .ref a :: st) h Q := PW_step rfl rfl rfl rfl
theorem u_135_37i : PW B X 135 37 lv (.int x :: st) h Q ↔ PW B X 135 38 lv (.int x :: .int x :: st) h Q := PW_step rfl rfl rfl rfl
theorem u_135_38 : PW B X 135 38 lv (.ref a :: st) h Q ↔ pm_O (pm_gf (pm_at B h a) 10 19) (fun v => PW B X 135 41 lv (v :: st) h Q) := PW_getf rfl rfl
theorem u_135_41 : PW B X 135 41 lv (st) h Q ↔ PW B X 135 42 lv (.int 1 :: st) h Q := PW_step rfl rfl rfl rfl
theorem u_135_42 : PW B X 135 42 lv (.int y :: .int x :: st) h Q ↔ PW B X 135 43 lv (.int (x + y) :: st) h Q := PW_step rfl rfl rfl rfl
theorem u_135_43 : PW B X 135 43 lv (v :: .ref a :: st) h Q ↔ pm_O (pm_pf (pm_at B h a) 10 19 v) (fun e => PW B X 135 46 lv (st) (pm_set B h a e) Q) := PW_putf rfl rfl
theorem u_135_46 : PW B X 135 46 [some (.ref a), v1] (st) h Q ↔ PW B X 135 47 [some (.ref a), v1] (.ref a :: st) h Q := PW_step rfl rfl rfl rfl
theorem u_135_46n : PW B X 135 46 [some .null, v1] (st) h Q ↔ PW B X 135 47 [some .null, v1] (.null :: st) h Q := PW_step rfl rfl rfl rfl
theorem u_135_47 : PW B X 135 47 lv (.ref a :: st) h Q ↔ pm_O (pm_gf (pm_at B h a) 10 19) (fun v => PW B X 135 50 lv (v :: st) h Q) := PW_getf rfl rfl
theorem u_135_50 : PW B X 135 50 lv ([.int x]) h Q ↔ Q (some (.int x)) h := PW_ret rfl rfl
-- 136 Ref_travel
theorem u_136_0 : PW B X 136 0 [some (.ref a), v1, v2] (st) h Q ↔ PW B X 136 1 [some (.ref a), v1, v2] (.ref a :: st) h Q := PW_step rfl rfl rfl rfl
theorem u_136_0n : PW B X 136 0 [some .null, v1, v2] (st) h Q ↔ PW B X 136 1 [some .null, v1, v2] (.null :: st) h Q := PW_step rfl rfl rfl rfl
theorem u_136_1 : PW B X 136 1 [v0, some (.int x), v2] (st) h Q ↔ PW B X 136 2 [v0, some (.int x), v2] (.int x :: st) h Q := PW_step rfl rfl rfl rfl
theorem u_136_2 : PW B X 136 2 lv (.int q0 :: .ref a :: st) h Q ↔ (pm_w st ≤ 8 ∧ pm_io B h a 10 = true ∧ PW B X 96 0 [some (.ref a), some (.int q0)] [] h (fun r h' => PW B X 136 5 lv (r.toList ++ st) h' Q)) := PW_cv (y := 96) (as := [.int q0]) (rest := st) rfl rfl rfl rfl rfl ⟨Nat.le_of_ble_eq_true rfl, Nat.le_of_ble_eq_true rfl, Nat.le_of_ble_eq_true rfl⟩
theorem u_136_5 : PW B X 136 5 lv (.int x :: st) h Q ↔ (if x = 0 then PW B X 136 13 lv (st) h Q else PW B X 136 8 lv (st) h Q) := PW_if rfl rfl pm_c_eq
theorem u_136_8 : PW B X 136 8 [v0, v1, some (.int x)] (st) h Q ↔ PW B X 136 9 [v0, v1, some (.int x)] (.int x :: st) h Q := PW_step rfl rfl rfl rfl
theorem u_136_9 : PW B X 136 9 lv (st) h Q ↔ PW B X 136 10 lv (.int (-1) :: st) h Q := PW_step rfl rfl rfl rfl
theorem u_136_10 : PW B X 136 10 lv (.int y :: .int x :: st) h Q ↔ (if y ≤ x then PW B X 136 28 lv (st) h Q else PW B X 136 13 lv (st) h Q) := PW_icmp rfl rfl pm_c_ge
theorem u_136_13 : PW B X 136 13 [v0, v1, some (.int x)] (st) h Q ↔ PW B X 136 14 [v0, v1, some (.int x)] (.int x :: st) h Q := PW_step rfl rfl rfl rfl
theorem u_136_14 : PW B X 136 14 lv (st) h Q ↔ PW B X 136 15 lv (.int (-1) :: st) h Q := PW_step rfl rfl rfl rfl
theorem u_136_15 : PW B X 136 15 lv (.int y :: .int x :: st) h Q ↔ (if ¬ x = y then PW B X 136 24 lv (st) h Q else PW B X 136 18 lv (st) h Q) := PW_icmp rfl rfl pm_c_ne
theorem u_136_18 : PW B X 136 18 lv (st) h Q ↔ PW B X 136 21 lv (.long (-2) :: st) h Q := PW_step rfl rfl rfl rfl
theorem u_136_21 : PW B X 136 21 lv (st) h Q ↔ PW B X 136 27 lv (st) h Q := PW_step rfl rfl rfl rfl
theorem u_136_24 : PW B X 136 24 lv (st) h Q ↔ PW B X 136 27 lv (.long (-1) :: st) h Q := PW_step rfl rfl rfl rfl
theorem u_136_27 : PW B X 136 27 lv ([.long z]) h Q ↔ Q (some (.long z)) h := PW_ret rfl rfl
theorem u_136_28 : PW B X 136 28 [some (.ref a), v1, v2] (st) h Q ↔ PW B X 136 29 [some (.ref a), v1, v2] (.ref a :: st) h Q := PW_step rfl rfl rfl rfl
theorem u_136_28n : PW B X 136 28 [some .null, v1, v2] (st) h Q ↔ PW B X 136 29 [some .null, v1, v2] (.null :: st) h Q := PW_step rfl rfl rfl rfl
theorem u_136_29 : PW B X 136 29 [v0, some (.int x), v2] (st) h Q ↔ PW B X 136 30 [v0, some (.int x), v2] (.int x :: st) h Q := PW_step rfl rfl rfl rfl
theorem u_136_30 : PW B X 136 30 lv (.int q0 :: .ref a :: st) h Q ↔ (pm_w st ≤ 8 ∧ pm_io B h a 10 = true ∧ PW B X 137 0 [some (.ref a), some (.int q0), none, none, none, none] [] h (fun r h' => PW B X 136 33 lv (r.toList ++ st) h' Q)) := PW_cv (y := 137) (as := [.int q0]) (rest := st) rfl rfl rfl rfl rfl ⟨Nat.le_of_ble_eq_true rfl, Nat.le_of_ble_eq_true rfl, Nat.le_of_ble_eq_true rfl⟩
theorem u_136_33 : PW B X 136 33 [v0, v1, some (.int x)] (st) h Q ↔ PW B X 136 34 [v0, v1, some (.int x)] (.int x :: st) h Q := PW_step rfl rfl rfl rfl
theorem u_136_34 : PW B X 136 34 lv (.int q1 :: .long p0 :: st) h Q ↔ (pm_w st ≤ 8 ∧ PW B X 134 0 [some (.long p0), none, some (.int q1), none, none, none, none] [] h (fun r h' => PW B X 136 37 lv (r.toList ++ st) h' Q)) := PW_cs (y := 134) (as := [.long p0, .int q1]) (rest := st) rfl rfl rfl rfl rfl ⟨Nat.le_of_ble_eq_true rfl, Nat.le_of_ble_eq_true rfl, Nat.le_of_ble_eq_true rfl⟩
theorem u_136_37 : PW B X 136 37 lv ([.long z]) h Q ↔ Q (some (.long z)) h := PW_ret rfl rfl
-- 137 Ref_way
theorem u_137_0 : PW B X 137 0 lv (st) h Q ↔ PW B X 137 1 lv (.long 0 :: st) h Q := PW_step rfl rfl rfl rfl
theorem u_137_1 : PW B X 137 1 [v0, v1, v2, v3, v4, v5] (.long z :: st) h Q ↔ PW B X 137 2 [v0, pm_c v1, some (.long z), none, v4, v5] (st) h Q := PW_step rfl rfl rfl rfl
theorem u_137_2 : PW B X 137 2 lv (st) h Q ↔ PW B X 137 3 lv (.int 1 :: st) h Q := PW_step rfl rfl rfl rfl
theorem u_137_3 : PW B X 137 3 [v0, v1, v2, v3, v4, v5] (.int x :: st) h Q ↔ PW B X 137 5 [v0, v1, v2, pm_c v3, some (.int x), v5] (st) h Q := PW_step rfl rfl rfl rfl
theorem u_137_5 : PW B X 137 5 [v0, v1, v2, v3, some (.int x), v5] (st) h Q ↔ PW B X 137 7 [v0, v1, v2, v3, some (.int x), v5] (.int x :: st) h Q := PW_step rfl rfl rfl rfl
theorem u_137_7 : PW B X 137 7 [some (.ref a), v1, v2, v3, v4, v5] (st) h Q ↔ PW B X 137 8 [some (.ref a), v1, v2, v3, v4, v5] (.ref a :: st) h Q := PW_step rfl rfl rfl rfl
theorem u_137_7n : PW B X 137 7 [some .null, v1, v2, v3, v4, v5] (st) h Q ↔ PW B X 137 8 [some .null, v1, v2, v3, v4, v5] (.null :: st) h Q := PW_step rfl rfl rfl rfl
theorem u_137_8 : PW B X 137 8 lv (.ref a :: st) h Q ↔ pm_O (pm_gf (pm_at B h a) 10 19) (fun v => PW B X 137 11 lv (v :: st) h Q) := PW_getf rfl rfl
theorem u_137_11 : PW B X 137 11 lv (.int y :: .int x :: st) h Q ↔ (if y ≤ x then PW B X 137 68 lv (st) h Q else PW B X 137 14 lv (st) h Q) := PW_icmp rfl rfl pm_c_ge
theorem u_137_14 : PW B X 137 14 [some (.ref a), v1, v2, v3, v4, v5] (st) h Q ↔ PW B X 137 15 [some (.ref a), v1, v2, v3, v4, v5] (.ref a :: st) h Q := PW_step rfl rfl rfl rfl
theorem u_137_14n : PW B X 137 14 [some .null, v1, v2, v3, v4, v5] (st) h Q ↔ PW B X 137 15 [some .null, v1, v2, v3, v4, v5] (.null :: st) h Q := PW_step rfl rfl rfl rfl
theorem u_137_15 : PW B X 137 15 lv (.ref a :: st) h Q ↔ pm_O (pm_gf (pm_at B h a) 10 20) (fun v => PW B X 137 18 lv (v :: st) h Q) := PW_getf rfl rfl
theorem u_137_18 : PW B X 137 18 [v0, v1, v2, v3, some (.int x), v5] (st) h Q ↔ PW B X 137 20 [v0, v1, v2, v3, some (.int x), v5] (.int x :: st) h Q := PW_step rfl rfl rfl rfl
theorem u_137_20 : PW B X 137 20 lv (.int x :: .ref a :: st) h Q ↔ pm_O (pm_ldi 0 (pm_at B h a) x) (fun v => PW B X 137 21 lv (v :: st) h Q) := PW_iald rfl rfl
theorem u_137_21 : PW B X 137 21 [some (.ref a), v1, v2, v3, v4, v5] (st) h Q ↔ PW B X 137 22 [some (.ref a), v1, v2, v3, v4, v5] (.ref a :: st) h Q := PW_step rfl rfl rfl rfl
theorem u_137_21n : PW B X 137 21 [some .null, v1, v2, v3, v4, v5] (st) h Q ↔ PW B X 137 22 [some .null, v1, v2, v3, v4, v5] (.null :: st) h Q := PW_step rfl rfl rfl rfl
theorem u_137_22 : PW B X 137 22 lv (.ref a :: st) h Q ↔ pm_O (pm_gf (pm_at B h a) 10 20) (fun v => PW B X 137 25 lv (v :: st) h Q) := PW_getf rfl rfl
theorem u_137_25 : PW B X 137 25 [v0, v1, v2, v3, some (.int x), v5] (st) h Q ↔ PW B X 137 27 [v0, v1, v2, v3, some (.int x), v5] (.int x :: st) h Q := PW_step rfl rfl rfl rfl
theorem u_137_27 : PW B X 137 27 lv (st) h Q ↔ PW B X 137 28 lv (.int 1 :: st) h Q := PW_step rfl rfl rfl rfl
theorem u_137_28 : PW B X 137 28 lv (.int y :: .int x :: st) h Q ↔ PW B X 137 29 lv (.int (x - y) :: st) h Q := PW_step rfl rfl rfl rfl
theorem u_137_29 : PW B X 137 29 lv (.int x :: .ref a :: st) h Q ↔ pm_O (pm_ldi 0 (pm_at B h a) x) (fun v => PW B X 137 30 lv (v :: st) h Q) := PW_iald rfl rfl
theorem u_137_30 : PW B X 137 30 lv (.int y :: .int x :: st) h Q ↔ PW B X 137 31 lv (.int (x - y) :: st) h Q := PW_step rfl rfl rfl rfl
theorem u_137_31 : PW B X 137 31 [v0, v1, v2, v3, v4, v5] (.int x :: st) h Q ↔ PW B X 137 33 [v0, v1, v2, v3, pm_c v4, some (.int x)] (st) h Q := PW_step rfl rfl rfl rfl
theorem u_137_33 : PW B X 137 33 [v0, v1, some (.long z), v3, v4, v5] (st) h Q ↔ PW B X 137 34 [v0, v1, some (.long z), v3, v4, v5] (.long z :: st) h Q := PW_step rfl rfl rfl rfl
theorem u_137_34 : PW B X 137 34 lv (st) h Q ↔ PW B X 137 37 lv (.long 12 :: st) h Q := PW_step rfl rfl rfl rfl
theorem u_137_37 : PW B X 137 37 [some (.ref a), v1, v2, v3, v4, v5] (st) h Q ↔ PW B X 137 38 [some (.ref a), v1, v2, v3, v4, v5] (.ref a :: st) h Q := PW_step rfl rfl rfl rfl
theorem u_137_37n : PW B X 137 37 [some .null, v1, v2, v3, v4, v5] (st) h Q ↔ PW B X 137 38 [some .null, v1, v2, v3, v4, v5] (.null :: st) h Q := PW_step rfl rfl rfl rfl
theorem u_137_38 : PW B X 137 38 lv (.ref a :: st) h Q ↔ pm_O (pm_gf (pm_at B h a) 10 16) (fun v => PW B X 137 41 lv (v :: st) h Q) := PW_getf rfl rfl
theorem u_137_41 : PW B X 137 41 [v0, some (.int x), v2, v3, v4, v5] (st) h Q ↔ PW B X 137 42 [v0, some (.int x), v2, v3, v4, v5] (.int x :: st) h Q := PW_step rfl rfl rfl rfl
theorem u_137_42 : PW B X 137 42 lv (.int x :: .ref a :: st) h Q ↔ pm_O (pm_ldi 0 (pm_at B h a) x) (fun v => PW B X 137 43 lv (v :: st) h Q) := PW_iald rfl rfl
theorem u_137_43 : PW B X 137 43 lv (.int x :: st) h Q ↔ PW B X 137 44 lv (.long x.toInt64 :: st) h Q := PW_step rfl rfl rfl rfl
theorem u_137_44 : PW B X 137 44 lv (.long w :: .long z :: st) h Q ↔ PW B X 137 45 lv (.long (z * w) :: st) h Q := PW_step rfl rfl rfl rfl
theorem u_137_45 : PW B X 137 45 [v0, v1, v2, v3, v4, some (.int x)] (st) h Q ↔ PW B X 137 47 [v0, v1, v2, v3, v4, some (.int x)] (.int x :: st) h Q := PW_step rfl rfl rfl rfl
theorem u_137_47 : PW B X 137 47 lv (.int x :: st) h Q ↔ (if 0 ≤ x then PW B X 137 56 lv (st) h Q else PW B X 137 50 lv (st) h Q) := PW_if rfl rfl pm_c_ge
theorem u_137_50 : PW B X 137 50 [v0, v1, v2, v3, v4, some (.int x)] (st) h Q ↔ PW B X 137 52 [v0, v1, v2, v3, v4, some (.int x)] (.int x :: st) h Q := PW_step rfl rfl rfl rfl
theorem u_137_52 : PW B X 137 52 lv (.int x :: st) h Q ↔ PW B X 137 53 lv (.int (-x) :: st) h Q := PW_step rfl rfl rfl rfl
theorem u_137_53 : PW B X 137 53 lv (st) h Q ↔ PW B X 137 58 lv (st) h Q := PW_step rfl rfl rfl rfl
theorem u_137_56 : PW B X 137 56 [v0, v1, v2, v3, v4, some (.int x)] (st) h Q ↔ PW B X 137 58 [v0, v1, v2, v3, v4, some (.int x)] (.int x :: st) h Q := PW_step rfl rfl rfl rfl
theorem u_137_58 : PW B X 137 58 lv (.int x :: st) h Q ↔ PW B X 137 59 lv (.long x.toInt64 :: st) h Q := PW_step rfl rfl rfl rfl
theorem u_137_59 : PW B X 137 59 lv (.long w :: .long z :: st) h Q ↔ PW B X 137 60 lv (.long (z * w) :: st) h Q := PW_step rfl rfl rfl rfl
theorem u_137_60 : PW B X 137 60 lv (.long w :: .long z :: st) h Q ↔ PW B X 137 61 lv (.long (z + w) :: st) h Q := PW_step rfl rfl rfl rfl
theorem u_137_61 : PW B X 137 61 [v0, v1, v2, v3, v4, v5] (.long z :: st) h Q ↔ PW B X 137 62 [v0, pm_c v1, some (.long z), none, v4, v5] (st) h Q := PW_step rfl rfl rfl rfl
theorem u_137_62 : PW B X 137 62 [v0, v1, v2, v3, some (.int x), v5] (st) h Q ↔ PW B X 137 65 [v0, v1, v2, pm_c v3, some (.int (x + 1)), v5] (st) h Q := PW_step rfl rfl rfl rfl
theorem u_137_65 : PW B X 137 65 lv (st) h Q ↔ PW B X 137 5 lv (st) h Q := PW_step rfl rfl rfl rfl
theorem u_137_68 : PW B X 137 68 [v0, v1, some (.long z), v3, v4, v5] (st) h Q ↔ PW B X 137 69 [v0, v1, some (.long z), v3, v4, v5] (.long z :: st) h Q := PW_step rfl rfl rfl rfl
theorem u_137_69 : PW B X 137 69 lv ([.long z]) h Q ↔ Q (some (.long z)) h := PW_ret rfl rfl
-- 138 Ref_list
theorem u_138_0 : PW B X 138 0 [v0, some (.int x), v2] (st) h Q ↔ PW B X 138 1 [v0, some (.int x), v2] (.int x :: st) h Q := PW_step rfl rfl rfl rfl
theorem u_138_1 : PW B X 138 1 lv (.int x :: st) h Q ↔ PW B X 138 2 lv (.long x.toInt64 :: st) h Q := PW_step rfl rfl rfl rfl
theorem u_138_2 : PW B X 138 2 lv (st) h Q ↔ PW B X 138 3 lv (.long 0 :: st) h Q := PW_step rfl rfl rfl rfl
theorem u_138_3 : PW B X 138 3 lv (st) h Q ↔ PW B X 138 6 lv (.long 100000 :: st) h Q := PW_step rfl rfl rfl rfl
theorem u_138_6 : PW B X 138 6 lv (.long p2 :: .long p1 :: .long p0 :: st) h Q ↔ (pm_w st ≤ 8 ∧ PW B X 94 0 [some (.long p0), none, some (.long p1), none, some (.long p2), none] [] h (fun r h' => PW B X 138 9 lv (r.toList ++ st) h' Q)) := PW_cs (y := 94) (as := [.long p0, .long p1, .long p2]) (rest := st) rfl rfl rfl rfl rfl ⟨Nat.le_of_ble_eq_true rfl, Nat.le_of_ble_eq_true rfl, Nat.le_of_ble_eq_true rfl⟩
theorem u_138_9 : PW B X 138 9 lv (.int x :: st) h Q ↔ (if x = 0 then PW B X 138 33 lv (st) h Q else PW B X 138 12 lv (st) h Q) := PW_if rfl rfl pm_c_eq
theorem u_138_12 : PW B X 138 12 [v0, v1, some (.int x)] (st) h Q ↔ PW B X 138 13 [v0, v1, some (.int x)] (.int x :: st) h Q := PW_step rfl rfl rfl rfl
theorem u_138_13 : PW B X 138 13 lv (.int x :: st) h Q ↔ PW B X 138 14 lv (.long x.toInt64 :: st) h Q := PW_step rfl rfl rfl rfl
theorem u_138_14 : PW B X 138 14 lv (st) h Q ↔ PW B X 138 15 lv (.long 0 :: st) h Q := PW_step rfl rfl rfl rfl
theorem u_138_15 : PW B X 138 15 lv (st) h Q ↔ PW B X 138 18 lv (.long 10000000 :: st) h Q := PW_step rfl rfl rfl rfl
theorem u_138_18 : PW B X 138 18 lv (.long p2 :: .long p1 :: .long p0 :: st) h Q ↔ (pm_w st ≤ 8 ∧ PW B X 94 0 [some (.long p0), none, some (.long p1), none, some (.long p2), none] [] h (fun r h' => PW B X 138 21 lv (r.toList ++ st) h' Q)) := PW_cs (y := 94) (as := [.long p0, .long p1, .long p2]) (rest := st) rfl rfl rfl rfl rfl ⟨Nat.le_of_ble_eq_true rfl, Nat.le_of_ble_eq_true rfl, Nat.le_of_ble_eq_true rfl⟩
theorem u_138_21 : PW B X 138 21 lv (.int x :: st) h Q ↔ (if x = 0 then PW B X 138 33 lv (st) h Q else PW B X 138 24 lv (st) h Q) := PW_if rfl rfl pm_c_eq
theorem u_138_24 : PW B X 138 24 [some (.ref a), v1, v2] (st) h Q ↔ PW B X 138 25 [some (.ref a), v1, v2] (.ref a :: st) h Q := PW_step rfl rfl rfl rfl
theorem u_138_24n : PW B X 138 24 [some .null, v1, v2] (st) h Q ↔ PW B X 138 25 [some .null, v1, v2] (.null :: st) h Q := PW_step rfl rfl rfl rfl
theorem u_138_25 : PW B X 138 25 lv (.ref a :: st) h Q ↔ pm_O (pm_gf (pm_at B h a) 10 21) (fun v => PW B X 138 28 lv (v :: st) h Q) := PW_getf rfl rfl
theorem u_138_28 : PW B X 138 28 lv (st) h Q ↔ PW B X 138 30 lv (.int 12 :: st) h Q := PW_step rfl rfl rfl rfl
theorem u_138_30 : PW B X 138 30 lv (.int y :: .int x :: st) h Q ↔ (if ¬ x = y then PW B X 138 35 lv (st) h Q else PW B X 138 33 lv (st) h Q) := PW_icmp rfl rfl pm_c_ne
theorem u_138_33 : PW B X 138 33 lv (st) h Q ↔ PW B X 138 34 lv (.int (-1) :: st) h Q := PW_step rfl rfl rfl rfl
theorem u_138_34 : PW B X 138 34 lv ([.int x]) h Q ↔ Q (some (.int x)) h := PW_ret rfl rfl
theorem u_138_35 : PW B X 138 35 [some (.ref a), v1, v2] (st) h Q ↔ PW B X 138 36 [some (.ref a), v1, v2] (.ref a :: st) h Q := PW_step rfl rfl rfl rfl
theorem u_138_35n : PW B X 138 35 [some .null, v1, v2] (st) h Q ↔ PW B X 138 36 [some .null, v1, v2] (.null :: st) h Q := PW_step rfl rfl rfl rfl
theorem u_138_36 : PW B X 138 36 lv (.ref a :: st) h Q ↔ pm_O (pm_gf (pm_at B h a) 10 22) (fun v => PW B X 138 39 lv (v :: st) h Q) := PW_getf rfl rfl
theorem u_138_39 : PW B X 138 39 [some (.ref a), v1, v2] (st) h Q ↔ PW B X 138 40 [some (.ref a), v1, v2] (.ref a :: st) h Q := PW_step rfl rfl rfl rfl
theorem u_138_39n : PW B X 138 39 [some .null, v1, v2] (st) h Q ↔ PW B X 138 40 [some .null, v1, v2] (.null :: st) h Q := PW_step rfl rfl rfl rfl
theorem u_138_40 : PW B X 138 40 lv (.ref a :: st) h Q ↔ pm_O (pm_gf (pm_at B h a) 10 21) (fun v => PW B X 138 43 lv (v :: st) h Q) := PW_getf rfl rfl
theorem u_138_43 : PW B X 138 43 [v0, some (.int x), v2] (st) h Q ↔ PW B X 138 44 [v0, some (.int x), v2] (.int x :: st) h Q := PW_step rfl rfl rfl rfl
theorem u_138_44 : PW B X 138 44 lv (.int y :: .int x :: .ref a :: st) h Q ↔ pm_O (pm_sti 0 (pm_at B h a) x y) (fun e => PW B X 138 45 lv (st) (pm_set B h a e) Q) := PW_iast rfl
theorem u_138_45 : PW B X 138 45 [some (.ref a), v1, v2] (st) h Q ↔ PW B X 138 46 [some (.ref a), v1, v2] (.ref a :: st) h Q := PW_step rfl rfl rfl rfl
theorem u_138_45n : PW B X 138 45 [some .null, v1, v2] (st) h Q ↔ PW B X 138 46 [some .null, v1, v2] (.null :: st) h Q := PW_step rfl rfl rfl rfl
theorem u_138_46 : PW B X 138 46 lv (.ref a :: st) h Q ↔ pm_O (pm_gf (pm_at B h a) 10 23) (fun v => PW B X 138 49 lv (v :: st) h Q) := PW_getf rfl rfl
theorem u_138_49 : PW B X 138 49 [some (.ref a), v1, v2] (st) h Q ↔ PW B X 138 50 [some (.ref a), v1, v2] (.ref a :: st) h Q := PW_step rfl rfl rfl rfl
theorem u_138_49n : PW B X 138 49 [some .null, v1, v2] (st) h Q ↔ PW B X 138 50 [some .null, v1, v2] (.null :: st) h Q := PW_step rfl rfl rfl rfl
theorem u_138_50 : PW B X 138 50 lv (.ref a :: st) h Q ↔ pm_O (pm_gf (pm_at B h a) 10 21) (fun v => PW B X 138 53 lv (v :: st) h Q) := PW_getf rfl rfl
theorem u_138_53 : PW B X 138 53 [v0, v1, some (.int x)] (st) h Q ↔ PW B X 138 54 [v0, v1, some (.int x)] (.int x :: st) h Q := PW_step rfl rfl rfl rfl
theorem u_138_54 : PW B X 138 54 lv (.int y :: .int x :: .ref a :: st) h Q ↔ pm_O (pm_sti 0 (pm_at B h a) x y) (fun e => PW B X 138 55 lv (st) (pm_set B h a e) Q) := PW_iast rfl
theorem u_138_55 : PW B X 138 55 [some (.ref a), v1, v2] (st) h Q ↔ PW B X 138 56 [some (.ref a), v1, v2] (.ref a :: st) h Q := PW_step rfl rfl rfl rfl
theorem u_138_55n : PW B X 138 55 [some .null, v1, v2] (st) h Q ↔ PW B X 138 56 [some .null, v1, v2] (.null :: st) h Q := PW_step rfl rfl rfl rfl
theorem u_138_56 : PW B X 138 56 lv (.ref a :: st) h Q ↔ PW B X 138 57 lv (.ref a :: .ref a :: st) h Q := PW_step rfl rfl rfl rfl
theorem u_138_56i : PW B X 138 56 lv (.int x :: st) h Q ↔ PW B X 138 57 lv (.int x :: .int x :: st) h Q := PW_step rfl rfl rfl rfl
theorem u_138_57 : PW B X 138 57 lv (.ref a :: st) h Q ↔ pm_O (pm_gf (pm_at B h a) 10 21) (fun v => PW B X 138 60 lv (v :: st) h Q) := PW_getf rfl rfl
theorem u_138_60 : PW B X 138 60 lv (st) h Q ↔ PW B X 138 61 lv (.int 1 :: st) h Q := PW_step rfl rfl rfl rfl
theorem u_138_61 : PW B X 138 61 lv (.int y :: .int x :: st) h Q ↔ PW B X 138 62 lv (.int (x + y) :: st) h Q := PW_step rfl rfl rfl rfl
theorem u_138_62 : PW B X 138 62 lv (v :: .ref a :: st) h Q ↔ pm_O (pm_pf (pm_at B h a) 10 21 v) (fun e => PW B X 138 65 lv (st) (pm_set B h a e) Q) := PW_putf rfl rfl
theorem u_138_65 : PW B X 138 65 [some (.ref a), v1, v2] (st) h Q ↔ PW B X 138 66 [some (.ref a), v1, v2] (.ref a :: st) h Q := PW_step rfl rfl rfl rfl
theorem u_138_65n : PW B X 138 65 [some .null, v1, v2] (st) h Q ↔ PW B X 138 66 [some .null, v1, v2] (.null :: st) h Q := PW_step rfl rfl rfl rfl
theorem u_138_66 : PW B X 138 66 lv (.ref a :: st) h Q ↔ pm_O (pm_gf (pm_at B h a) 10 21) (fun v => PW B X 138 69 lv (v :: st) h Q) := PW_getf rfl rfl
theorem u_138_69 : PW B X 138 69 lv (st) h Q ↔ PW B X 138 70 lv (.int 1 :: st) h Q := PW_step rfl rfl rfl rfl
theorem u_138_70 : PW B X 138 70 lv (.int y :: .int x :: st) h Q ↔ PW B X 138 71 lv (.int (x - y) :: st) h Q := PW_step rfl rfl rfl rfl
theorem u_138_71 : PW B X 138 71 lv ([.int x]) h Q ↔ Q (some (.int x)) h := PW_ret rfl rfl
-- 139 Ref_best
theorem u_139_0 : PW B X 139 0 [some (.ref a), v1, v2, v3, v4, v5] (st) h Q ↔ PW B X 139 1 [some (.ref a), v1, v2, v3, v4, v5] (.ref a :: st) h Q := PW_step rfl rfl rfl rfl
theorem u_139_0n : PW B X 139 0 [some .null, v1, v2, v3, v4, v5] (st) h Q ↔ PW B X 139 1 [some .null, v1, v2, v3, v4, v5] (.null :: st) h Q := PW_step rfl rfl rfl rfl
theorem u_139_1 : PW B X 139 1 [v0, some (.int x), v2, v3, v4, v5] (st) h Q ↔ PW B X 139 2 [v0, some (.int x), v2, v3, v4, v5] (.int x :: st) h Q := PW_step rfl rfl rfl rfl
theorem u_139_2 : PW B X 139 2 lv (.int q0 :: .ref a :: st) h Q ↔ (pm_w st ≤ 8 ∧ pm_io B h a 10 = true ∧ PW B X 96 0 [some (.ref a), some (.int q0)] [] h (fun r h' => PW B X 139 5 lv (r.toList ++ st) h' Q)) := PW_cv (y := 96) (as := [.int q0]) (rest := st) rfl rfl rfl rfl rfl ⟨Nat.le_of_ble_eq_true rfl, Nat.le_of_ble_eq_true rfl, Nat.le_of_ble_eq_true rfl⟩
theorem u_139_5 : PW B X 139 5 lv (.int x :: st) h Q ↔ (if ¬ x = 0 then PW B X 139 10 lv (st) h Q else PW B X 139 8 lv (st) h Q) := PW_if rfl rfl pm_c_ne
theorem u_139_8 : PW B X 139 8 lv (st) h Q ↔ PW B X 139 9 lv (.int (-1) :: st) h Q := PW_step rfl rfl rfl rfl
theorem u_139_9 : PW B X 139 9 lv ([.int x]) h Q ↔ Q (some (.int x)) h := PW_ret rfl rfl
theorem u_139_10 : PW B X 139 10 lv (st) h Q ↔ PW B X 139 11 lv (.int (-1) :: st) h Q := PW_step rfl rfl rfl rfl
theorem u_139_11 : PW B X 139 11 [v0, v1, v2, v3, v4, v5] (.int x :: st) h Q ↔ PW B X 139 12 [v0, pm_c v1, some (.int x), v3, v4, v5] (st) h Q := PW_step rfl rfl rfl rfl
theorem u_139_12 : PW B X 139 12 lv (st) h Q ↔ PW B X 139 13 lv (.int 0 :: st) h Q := PW_step rfl rfl rfl rfl
theorem u_139_13 : PW B X 139 13 [v0, v1, v2, v3, v4, v5] (.int x :: st) h Q ↔ PW B X 139 14 [v0, v1, pm_c v2, some (.int x), v4, v5] (st) h Q := PW_step rfl rfl rfl rfl
theorem u_139_14 : PW B X 139 14 [v0, v1, v2, some (.int x), v4, v5] (st) h Q ↔ PW B X 139 15 [v0, v1, v2, some (.int x), v4, v5] (.int x :: st) h Q := PW_step rfl rfl rfl rfl
theorem u_139_15 : PW B X 139 15 [some (.ref a), v1, v2, v3, v4, v5] (st) h Q ↔ PW B X 139 16 [some (.ref a), v1, v2, v3, v4, v5] (.ref a :: st) h Q := PW_step rfl rfl rfl rfl
theorem u_139_15n : PW B X 139 15 [some .null, v1, v2, v3, v4, v5] (st) h Q ↔ PW B X 139 16 [some .null, v1, v2, v3, v4, v5] (.null :: st) h Q := PW_step rfl rfl rfl rfl
theorem u_139_16 : PW B X 139 16 lv (.ref a :: st) h Q ↔ pm_O (pm_gf (pm_at B h a) 10 21) (fun v => PW B X 139 19 lv (v :: st) h Q) := PW_getf rfl rfl
theorem u_139_19 : PW B X 139 19 lv (.int y :: .int x :: st) h Q ↔ (if y ≤ x then PW B X 139 173 lv (st) h Q else PW B X 139 22 lv (st) h Q) := PW_icmp rfl rfl pm_c_ge
theorem u_139_22 : PW B X 139 22 lv (st) h Q ↔ PW B X 139 23 lv (.int 1 :: st) h Q := PW_step rfl rfl rfl rfl
theorem u_139_23 : PW B X 139 23 [v0, v1, v2, v3, v4, v5] (.int x :: st) h Q ↔ PW B X 139 25 [v0, v1, v2, pm_c v3, some (.int x), v5] (st) h Q := PW_step rfl rfl rfl rfl
theorem u_139_25 : PW B X 139 25 lv (st) h Q ↔ PW B X 139 26 lv (.int 0 :: st) h Q := PW_step rfl rfl rfl rfl
theorem u_139_26 : PW B X 139 26 [v0, v1, v2, v3, v4, v5] (.int x :: st) h Q ↔ PW B X 139 28 [v0, v1, v2, v3, pm_c v4, some (.int x)] (st) h Q := PW_step rfl rfl rfl rfl
theorem u_139_28 : PW B X 139 28 [v0, v1, v2, v3, v4, some (.int x)] (st) h Q ↔ PW B X 139 30 [v0, v1, v2, v3, v4, some (.int x)] (.int x :: st) h Q := PW_step rfl rfl rfl rfl
theorem u_139_30 : PW B X 139 30 lv (st) h Q ↔ PW B X 139 31 lv (.int 2 :: st) h Q := PW_step rfl rfl rfl rfl
theorem u_139_31 : PW B X 139 31 lv (.int y :: .int x :: st) h Q ↔ (if y ≤ x then PW B X 139 69 lv (st) h Q else PW B X 139 34 lv (st) h Q) := PW_icmp rfl rfl pm_c_ge
theorem u_139_34 : PW B X 139 34 [v0, v1, v2, v3, some (.int x), v5] (st) h Q ↔ PW B X 139 36 [v0, v1, v2, v3, some (.int x), v5] (.int x :: st) h Q := PW_step rfl rfl rfl rfl
theorem u_139_36 : PW B X 139 36 lv (.int x :: st) h Q ↔ (if x = 0 then PW B X 139 69 lv (st) h Q else PW B X 139 39 lv (st) h Q) := PW_if rfl rfl pm_c_eq
theorem u_139_39 : PW B X 139 39 [some (.ref a), v1, v2, v3, v4, v5] (st) h Q ↔ PW B X 139 40 [some (.ref a), v1, v2, v3, v4, v5] (.ref a :: st) h Q := PW_step rfl rfl rfl rfl
theorem u_139_39n : PW B X 139 39 [some .null, v1, v2, v3, v4, v5] (st) h Q ↔ PW B X 139 40 [some .null, v1, v2, v3, v4, v5] (.null :: st) h Q := PW_step rfl rfl rfl rfl
theorem u_139_40 : PW B X 139 40 [v0, some (.int x), v2, v3, v4, v5] (st) h Q ↔ PW B X 139 41 [v0, some (.int x), v2, v3, v4, v5] (.int x :: st) h Q := PW_step rfl rfl rfl rfl
theorem u_139_41 : PW B X 139 41 [v0, v1, v2, v3, v4, some (.int x)] (st) h Q ↔ PW B X 139 43 [v0, v1, v2, v3, v4, some (.int x)] (.int x :: st) h Q := PW_step rfl rfl rfl rfl
theorem u_139_43 : PW B X 139 43 lv (.int q1 :: .int q0 :: .ref a :: st) h Q ↔ (pm_w st ≤ 8 ∧ pm_io B h a 10 = true ∧ PW B X 108 0 [some (.ref a), some (.int q0), some (.int q1), none] [] h (fun r h' => PW B X 139 46 lv (r.toList ++ st) h' Q)) := PW_cv (y := 108) (as := [.int q0, .int q1]) (rest := st) rfl rfl rfl rfl rfl ⟨Nat.le_of_ble_eq_true rfl, Nat.le_of_ble_eq_true rfl, Nat.le_of_ble_eq_true rfl⟩
theorem u_139_46 : PW B X 139 46 [some (.ref a), v1, v2, v3, v4, v5] (st) h Q ↔ PW B X 139 47 [some (.ref a), v1, v2, v3, v4, v5] (.ref a :: st) h Q := PW_step rfl rfl rfl rfl
theorem u_139_46n : PW B X 139 46 [some .null, v1, v2, v3, v4, v5] (st) h Q ↔ PW B X 139 47 [some .null, v1, v2, v3, v4, v5] (.null :: st) h Q := PW_step rfl rfl rfl rfl
theorem u_139_47 : PW B X 139 47 [some (.ref a), v1, v2, v3, v4, v5] (st) h Q ↔ PW B X 139 48 [some (.ref a), v1, v2, v3, v4, v5] (.ref a :: st) h Q := PW_step rfl rfl rfl rfl
theorem u_139_47n : PW B X 139 47 [some .null, v1, v2, v3, v4, v5] (st) h Q ↔ PW B X 139 48 [some .null, v1, v2, v3, v4, v5] (.null :: st) h Q := PW_step rfl rfl rfl rfl
theorem u_139_48 : PW B X 139 48 lv (.ref a :: st) h Q ↔ pm_O (pm_gf (pm_at B h a) 10 22) (fun v => PW B X 139 51 lv (v :: st) h Q) := PW_getf rfl rfl
theorem u_139_51 : PW B X 139 51 [v0, v1, v2, some (.int x), v4, v5] (st) h Q ↔ PW B X 139 52 [v0, v1, v2, some (.int x), v4, v5] (.int x :: st) h Q := PW_step rfl rfl rfl rfl
theorem u_139_52 : PW B X 139 52 lv (.int x :: .ref a :: st) h Q ↔ pm_O (pm_ldi 0 (pm_at B h a) x) (fun v => PW B X 139 53 lv (v :: st) h Q) := PW_iald rfl rfl
theorem u_139_53 : PW B X 139 53 [some (.ref a), v1, v2, v3, v4, v5] (st) h Q ↔ PW B X 139 54 [some (.ref a), v1, v2, v3, v4, v5] (.ref a :: st) h Q := PW_step rfl rfl rfl rfl
theorem u_139_53n : PW B X 139 53 [some .null, v1, v2, v3, v4, v5] (st) h Q ↔ PW B X 139 54 [some .null, v1, v2, v3, v4, v5] (.null :: st) h Q := PW_step rfl rfl rfl rfl
theorem u_139_54 : PW B X 139 54 lv (.ref a :: st) h Q ↔ (pm_w st ≤ 8 ∧ pm_io B h a 10 = true ∧ PW B X 122 0 [some (.ref a)] [] h (fun r h' => PW B X 139 57 lv (r.toList ++ st) h' Q)) := PW_cv (y := 122) (as := []) (rest := st) rfl rfl rfl rfl rfl ⟨Nat.le_of_ble_eq_true rfl, Nat.le_of_ble_eq_true rfl, Nat.le_of_ble_eq_true rfl⟩
theorem u_139_57 : PW B X 139 57 lv (st) h Q ↔ PW B X 139 58 lv (.int 0 :: st) h Q := PW_step rfl rfl rfl rfl
theorem u_139_58 : PW B X 139 58 lv (.int q2 :: .int q1 :: .int q0 :: .ref a :: st) h Q ↔ (pm_w st ≤ 8 ∧ pm_io B h a 10 = true ∧ PW B X 140 0 [some (.ref a), some (.int q0), some (.int q1), some (.int q2)] [] h (fun r h' => PW B X 139 61 lv (r.toList ++ st) h' Q)) := PW_cv (y := 140) (as := [.int q0, .int q1, .int q2]) (rest := st) rfl rfl rfl rfl rfl ⟨Nat.le_of_ble_eq_true rfl, Nat.le_of_ble_eq_true rfl, Nat.le_of_ble_eq_true rfl⟩
theorem u_139_61 : PW B X 139 61 [v0, v1, v2, v3, v4, v5] (.int x :: st) h Q ↔ PW B X 139 63 [v0, v1, v2, pm_c v3, some (.int x), v5] (st) h Q := PW_step rfl rfl rfl rfl
theorem u_139_63 : PW B X 139 63 [v0, v1, v2, v3, v4, some (.int x)] (st) h Q ↔ PW B X 139 66 [v0, v1, v2, v3, pm_c v4, some (.int (x + 1))] (st) h Q := PW_step rfl rfl rfl rfl
theorem u_139_66 : PW B X 139 66 lv (st) h Q ↔ PW B X 139 28 lv (st) h Q := PW_step rfl rfl rfl rfl
theorem u_139_69 : PW B X 139 69 [v0, v1, v2, v3, some (.int x), v5] (st) h Q ↔ PW B X 139 71 [v0, v1, v2, v3, some (.int x), v5] (.int x :: st) h Q := PW_step rfl rfl rfl rfl
theorem u_139_71 : PW B X 139 71 lv (.int x :: st) h Q ↔ (if x = 0 then PW B X 139 94 lv (st) h Q else PW B X 139 74 lv (st) h Q) := PW_if rfl rfl pm_c_eq
theorem u_139_74 : PW B X 139 74 [some (.ref a), v1, v2, v3, v4, v5] (st) h Q ↔ PW B X 139 75 [some (.ref a), v1, v2, v3, v4, v5] (.ref a :: st) h Q := PW_step rfl rfl rfl rfl
theorem u_139_74n : PW B X 139 74 [some .null, v1, v2, v3, v4, v5] (st) h Q ↔ PW B X 139 75 [some .null, v1, v2, v3, v4, v5] (.null :: st) h Q := PW_step rfl rfl rfl rfl
theorem u_139_75 : PW B X 139 75 [v0, some (.int x), v2, v3, v4, v5] (st) h Q ↔ PW B X 139 76 [v0, some (.int x), v2, v3, v4, v5] (.int x :: st) h Q := PW_step rfl rfl rfl rfl
theorem u_139_76 : PW B X 139 76 lv (st) h Q ↔ PW B X 139 77 lv (.int 2 :: st) h Q := PW_step rfl rfl rfl rfl
theorem u_139_77 : PW B X 139 77 lv (.int q1 :: .int q0 :: .ref a :: st) h Q ↔ (pm_w st ≤ 8 ∧ pm_io B h a 10 = true ∧ PW B X 108 0 [some (.ref a), some (.int q0), some (.int q1), none] [] h (fun r h' => PW B X 139 80 lv (r.toList ++ st) h' Q)) := PW_cv (y := 108) (as := [.int q0, .int q1]) (rest := st) rfl rfl rfl rfl rfl ⟨Nat.le_of_ble_eq_true rfl, Nat.le_of_ble_eq_true rfl, Nat.le_of_ble_eq_true rfl⟩
theorem u_139_80 : PW B X 139 80 [some (.ref a), v1, v2, v3, v4, v5] (st) h Q ↔ PW B X 139 81 [some (.ref a), v1, v2, v3, v4, v5] (.ref a :: st) h Q := PW_step rfl rfl rfl rfl
theorem u_139_80n : PW B X 139 80 [some .null, v1, v2, v3, v4, v5] (st) h Q ↔ PW B X 139 81 [some .null, v1, v2, v3, v4, v5] (.null :: st) h Q := PW_step rfl rfl rfl rfl
theorem u_139_81 : PW B X 139 81 [some (.ref a), v1, v2, v3, v4, v5] (st) h Q ↔ PW B X 139 82 [some (.ref a), v1, v2, v3, v4, v5] (.ref a :: st) h Q := PW_step rfl rfl rfl rfl
theorem u_139_81n : PW B X 139 81 [some .null, v1, v2, v3, v4, v5] (st) h Q ↔ PW B X 139 82 [some .null, v1, v2, v3, v4, v5] (.null :: st) h Q := PW_step rfl rfl rfl rfl
theorem u_139_82 : PW B X 139 82 lv (.ref a :: st) h Q ↔ pm_O (pm_gf (pm_at B h a) 10 23) (fun v => PW B X 139 85 lv (v :: st) h Q) := PW_getf rfl rfl
theorem u_139_85 : PW B X 139 85 [v0, v1, v2, some (.int x), v4, v5] (st) h Q ↔ PW B X 139 86 [v0, v1, v2, some (.int x), v4, v5] (.int x :: st) h Q := PW_step rfl rfl rfl rfl
theorem u_139_86 : PW B X 139 86 lv (.int x :: .ref a :: st) h Q ↔ pm_O (pm_ldi 0 (pm_at B h a) x) (fun v => PW B X 139 87 lv (v :: st) h Q) := PW_iald rfl rfl
theorem u_139_87 : PW B X 139 87 lv (st) h Q ↔ PW B X 139 88 lv (.int 1 :: st) h Q := PW_step rfl rfl rfl rfl
theorem u_139_88 : PW B X 139 88 lv (st) h Q ↔ PW B X 139 89 lv (.int 1 :: st) h Q := PW_step rfl rfl rfl rfl
theorem u_139_89 : PW B X 139 89 lv (.int q2 :: .int q1 :: .int q0 :: .ref a :: st) h Q ↔ (pm_w st ≤ 8 ∧ pm_io B h a 10 = true ∧ PW B X 140 0 [some (.ref a), some (.int q0), some (.int q1), some (.int q2)] [] h (fun r h' => PW B X 139 92 lv (r.toList ++ st) h' Q)) := PW_cv (y := 140) (as := [.int q0, .int q1, .int q2]) (rest := st) rfl rfl rfl rfl rfl ⟨Nat.le_of_ble_eq_true rfl, Nat.le_of_ble_eq_true rfl, Nat.le_of_ble_eq_true rfl⟩
theorem u_139_92 : PW B X 139 92 [v0, v1, v2, v3, v4, v5] (.int x :: st) h Q ↔ PW B X 139 94 [v0, v1, v2, pm_c v3, some (.int x), v5] (st) h Q := PW_step rfl rfl rfl rfl
theorem u_139_94 : PW B X 139 94 [v0, v1, some (.int x), v3, v4, v5] (st) h Q ↔ PW B X 139 95 [v0, v1, some (.int x), v3, v4, v5] (.int x :: st) h Q := PW_step rfl rfl rfl rfl
theorem u_139_95 : PW B X 139 95 lv (st) h Q ↔ PW B X 139 96 lv (.int (-1) :: st) h Q := PW_step rfl rfl rfl rfl
theorem u_139_96 : PW B X 139 96 lv (.int y :: .int x :: st) h Q ↔ (if x = y then PW B X 139 144 lv (st) h Q else PW B X 139 99 lv (st) h Q) := PW_icmp rfl rfl pm_c_eq
theorem u_139_99 : PW B X 139 99 [some (.ref a), v1, v2, v3, v4, v5] (st) h Q ↔ PW B X 139 100 [some (.ref a), v1, v2, v3, v4, v5] (.ref a :: st) h Q := PW_step rfl rfl rfl rfl
theorem u_139_99n : PW B X 139 99 [some .null, v1, v2, v3, v4, v5] (st) h Q ↔ PW B X 139 100 [some .null, v1, v2, v3, v4, v5] (.null :: st) h Q := PW_step rfl rfl rfl rfl
theorem u_139_100 : PW B X 139 100 lv (.ref a :: st) h Q ↔ pm_O (pm_gf (pm_at B h a) 10 23) (fun v => PW B X 139 103 lv (v :: st) h Q) := PW_getf rfl rfl
theorem u_139_103 : PW B X 139 103 [v0, v1, v2, some (.int x), v4, v5] (st) h Q ↔ PW B X 139 104 [v0, v1, v2, some (.int x), v4, v5] (.int x :: st) h Q := PW_step rfl rfl rfl rfl
theorem u_139_104 : PW B X 139 104 lv (.int x :: .ref a :: st) h Q ↔ pm_O (pm_ldi 0 (pm_at B h a) x) (fun v => PW B X 139 105 lv (v :: st) h Q) := PW_iald rfl rfl
theorem u_139_105 : PW B X 139 105 [some (.ref a), v1, v2, v3, v4, v5] (st) h Q ↔ PW B X 139 106 [some (.ref a), v1, v2, v3, v4, v5] (.ref a :: st) h Q := PW_step rfl rfl rfl rfl
theorem u_139_105n : PW B X 139 105 [some .null, v1, v2, v3, v4, v5] (st) h Q ↔ PW B X 139 106 [some .null, v1, v2, v3, v4, v5] (.null :: st) h Q := PW_step rfl rfl rfl rfl
theorem u_139_106 : PW B X 139 106 lv (.ref a :: st) h Q ↔ pm_O (pm_gf (pm_at B h a) 10 23) (fun v => PW B X 139 109 lv (v :: st) h Q) := PW_getf rfl rfl
theorem u_139_109 : PW B X 139 109 [v0, v1, some (.int x), v3, v4, v5] (st) h Q ↔ PW B X 139 110 [v0, v1, some (.int x), v3, v4, v5] (.int x :: st) h Q := PW_step rfl rfl rfl rfl
theorem u_139_110 : PW B X 139 110 lv (.int x :: .ref a :: st) h Q ↔ pm_O (pm_ldi 0 (pm_at B h a) x) (fun v => PW B X 139 111 lv (v :: st) h Q) := PW_iald rfl rfl
theorem u_139_111 : PW B X 139 111 lv (.int y :: .int x :: st) h Q ↔ (if x < y then PW B X 139 144 lv (st) h Q else PW B X 139 114 lv (st) h Q) := PW_icmp rfl rfl pm_c_lt
theorem u_139_114 : PW B X 139 114 [some (.ref a), v1, v2, v3, v4, v5] (st) h Q ↔ PW B X 139 115 [some (.ref a), v1, v2, v3, v4, v5] (.ref a :: st) h Q := PW_step rfl rfl rfl rfl
theorem u_139_114n : PW B X 139 114 [some .null, v1, v2, v3, v4, v5] (st) h Q ↔ PW B X 139 115 [some .null, v1, v2, v3, v4, v5] (.null :: st) h Q := PW_step rfl rfl rfl rfl
theorem u_139_115 : PW B X 139 115 lv (.ref a :: st) h Q ↔ pm_O (pm_gf (pm_at B h a) 10 23) (fun v => PW B X 139 118 lv (v :: st) h Q) := PW_getf rfl rfl
theorem u_139_118 : PW B X 139 118 [v0, v1, v2, some (.int x), v4, v5] (st) h Q ↔ PW B X 139 119 [v0, v1, v2, some (.int x), v4, v5] (.int x :: st) h Q := PW_step rfl rfl rfl rfl
theorem u_139_119 : PW B X 139 119 lv (.int x :: .ref a :: st) h Q ↔ pm_O (pm_ldi 0 (pm_at B h a) x) (fun v => PW B X 139 120 lv (v :: st) h Q) := PW_iald rfl rfl
theorem u_139_120 : PW B X 139 120 [some (.ref a), v1, v2, v3, v4, v5] (st) h Q ↔ PW B X 139 121 [some (.ref a), v1, v2, v3, v4, v5] (.ref a :: st) h Q := PW_step rfl rfl rfl rfl
theorem u_139_120n : PW B X 139 120 [some .null, v1, v2, v3, v4, v5] (st) h Q ↔ PW B X 139 121 [some .null, v1, v2, v3, v4, v5] (.null :: st) h Q := PW_step rfl rfl rfl rfl
theorem u_139_121 : PW B X 139 121 lv (.ref a :: st) h Q ↔ pm_O (pm_gf (pm_at B h a) 10 23) (fun v => PW B X 139 124 lv (v :: st) h Q) := PW_getf rfl rfl
theorem u_139_124 : PW B X 139 124 [v0, v1, some (.int x), v3, v4, v5] (st) h Q ↔ PW B X 139 125 [v0, v1, some (.int x), v3, v4, v5] (.int x :: st) h Q := PW_step rfl rfl rfl rfl
theorem u_139_125 : PW B X 139 125 lv (.int x :: .ref a :: st) h Q ↔ pm_O (pm_ldi 0 (pm_at B h a) x) (fun v => PW B X 139 126 lv (v :: st) h Q) := PW_iald rfl rfl
theorem u_139_126 : PW B X 139 126 lv (.int y :: .int x :: st) h Q ↔ (if ¬ x = y then PW B X 139 148 lv (st) h Q else PW B X 139 129 lv (st) h Q) := PW_icmp rfl rfl pm_c_ne
theorem u_139_129 : PW B X 139 129 [some (.ref a), v1, v2, v3, v4, v5] (st) h Q ↔ PW B X 139 130 [some (.ref a), v1, v2, v3, v4, v5] (.ref a :: st) h Q := PW_step rfl rfl rfl rfl
theorem u_139_129n : PW B X 139 129 [some .null, v1, v2, v3, v4, v5] (st) h Q ↔ PW B X 139 130 [some .null, v1, v2, v3, v4, v5] (.null :: st) h Q := PW_step rfl rfl rfl rfl
theorem u_139_130 : PW B X 139 130 lv (.ref a :: st) h Q ↔ pm_O (pm_gf (pm_at B h a) 10 22) (fun v => PW B X 139 133 lv (v :: st) h Q) := PW_getf rfl rfl
theorem u_139_133 : PW B X 139 133 [v0, v1, v2, some (.int x), v4, v5] (st) h Q ↔ PW B X 139 134 [v0, v1, v2, some (.int x), v4, v5] (.int x :: st) h Q := PW_step rfl rfl rfl rfl
theorem u_139_134 : PW B X 139 134 lv (.int x :: .ref a :: st) h Q ↔ pm_O (pm_ldi 0 (pm_at B h a) x) (fun v => PW B X 139 135 lv (v :: st) h Q) := PW_iald rfl rfl
theorem u_139_135 : PW B X 139 135 [some (.ref a), v1, v2, v3, v4, v5] (st) h Q ↔ PW B X 139 136 [some (.ref a), v1, v2, v3, v4, v5] (.ref a :: st) h Q := PW_step rfl rfl rfl rfl
theorem u_139_135n : PW B X 139 135 [some .null, v1, v2, v3, v4, v5] (st) h Q ↔ PW B X 139 136 [some .null, v1, v2, v3, v4, v5] (.null :: st) h Q := PW_step rfl rfl rfl rfl
theorem u_139_136 : PW B X 139 136 lv (.ref a :: st) h Q ↔ pm_O (pm_gf (pm_at B h a) 10 22) (fun v => PW B X 139 139 lv (v :: st) h Q) := PW_getf rfl rfl
theorem u_139_139 : PW B X 139 139 [v0, v1, some (.int x), v3, v4, v5] (st) h Q ↔ PW B X 139 140 [v0, v1, some (.int x), v3, v4, v5] (.int x :: st) h Q := PW_step rfl rfl rfl rfl
theorem u_139_140 : PW B X 139 140 lv (.int x :: .ref a :: st) h Q ↔ pm_O (pm_ldi 0 (pm_at B h a) x) (fun v => PW B X 139 141 lv (v :: st) h Q) := PW_iald rfl rfl
theorem u_139_141 : PW B X 139 141 lv (.int y :: .int x :: st) h Q ↔ (if y ≤ x then PW B X 139 148 lv (st) h Q else PW B X 139 144 lv (st) h Q) := PW_icmp rfl rfl pm_c_ge
theorem u_139_144 : PW B X 139 144 lv (st) h Q ↔ PW B X 139 145 lv (.int 1 :: st) h Q := PW_step rfl rfl rfl rfl
theorem u_139_145 : PW B X 139 145 lv (st) h Q ↔ PW B X 139 149 lv (st) h Q := PW_step rfl rfl rfl rfl
theorem u_139_148 : PW B X 139 148 lv (st) h Q ↔ PW B X 139 149 lv (.int 0 :: st) h Q := PW_step rfl rfl rfl rfl
theorem u_139_149 : PW B X 139 149 [v0, v1, v2, v3, v4, v5] (.int x :: st) h Q ↔ PW B X 139 151 [v0, v1, v2, v3, pm_c v4, some (.int x)] (st) h Q := PW_step rfl rfl rfl rfl
theorem u_139_151 : PW B X 139 151 [v0, v1, v2, v3, some (.int x), v5] (st) h Q ↔ PW B X 139 153 [v0, v1, v2, v3, some (.int x), v5] (.int x :: st) h Q := PW_step rfl rfl rfl rfl
theorem u_139_153 : PW B X 139 153 lv (.int x :: st) h Q ↔ (if x = 0 then PW B X 139 165 lv (st) h Q else PW B X 139 156 lv (st) h Q) := PW_if rfl rfl pm_c_eq
theorem u_139_156 : PW B X 139 156 [v0, v1, v2, v3, v4, some (.int x)] (st) h Q ↔ PW B X 139 158 [v0, v1, v2, v3, v4, some (.int x)] (.int x :: st) h Q := PW_step rfl rfl rfl rfl
theorem u_139_158 : PW B X 139 158 lv (.int x :: st) h Q ↔ (if x = 0 then PW B X 139 165 lv (st) h Q else PW B X 139 161 lv (st) h Q) := PW_if rfl rfl pm_c_eq
theorem u_139_161 : PW B X 139 161 [v0, v1, v2, some (.int x), v4, v5] (st) h Q ↔ PW B X 139 162 [v0, v1, v2, some (.int x), v4, v5] (.int x :: st) h Q := PW_step rfl rfl rfl rfl
theorem u_139_162 : PW B X 139 162 lv (st) h Q ↔ PW B X 139 166 lv (st) h Q := PW_step rfl rfl rfl rfl
theorem u_139_165 : PW B X 139 165 [v0, v1, some (.int x), v3, v4, v5] (st) h Q ↔ PW B X 139 166 [v0, v1, some (.int x), v3, v4, v5] (.int x :: st) h Q := PW_step rfl rfl rfl rfl
theorem u_139_166 : PW B X 139 166 [v0, v1, v2, v3, v4, v5] (.int x :: st) h Q ↔ PW B X 139 167 [v0, pm_c v1, some (.int x), v3, v4, v5] (st) h Q := PW_step rfl rfl rfl rfl
theorem u_139_167 : PW B X 139 167 [v0, v1, v2, some (.int x), v4, v5] (st) h Q ↔ PW B X 139 170 [v0, v1, pm_c v2, some (.int (x + 1)), v4, v5] (st) h Q := PW_step rfl rfl rfl rfl
theorem u_139_170 : PW B X 139 170 lv (st) h Q ↔ PW B X 139 14 lv (st) h Q := PW_step rfl rfl rfl rfl
theorem u_139_173 : PW B X 139 173 [v0, v1, some (.int x), v3, v4, v5] (st) h Q ↔ PW B X 139 174 [v0, v1, some (.int x), v3, v4, v5] (.int x :: st) h Q := PW_step rfl rfl rfl rfl
theorem u_139_174 : PW B X 139 174 lv ([.int x]) h Q ↔ Q (some (.int x)) h := PW_ret rfl rfl
-- 140 Ref_isEnough
theorem u_140_0 : PW B X 140 0 [some (.ref a), v1, v2, v3] (st) h Q ↔ PW B X 140 1 [some (.ref a), v1, v2, v3] (.ref a :: st) h Q := PW_step rfl rfl rfl rfl
theorem u_140_0n : PW B X 140 0 [some .null, v1, v2, v3] (st) h Q ↔ PW B X 140 1 [some .null, v1, v2, v3] (.null :: st) h Q := PW_step rfl rfl rfl rfl
theorem u_140_1 : PW B X 140 1 [v0, v1, some (.int x), v3] (st) h Q ↔ PW B X 140 2 [v0, v1, some (.int x), v3] (.int x :: st) h Q := PW_step rfl rfl rfl rfl
theorem u_140_2 : PW B X 140 2 lv (st) h Q ↔ PW B X 140 3 lv (.int 2 :: st) h Q := PW_step rfl rfl rfl rfl
theorem u_140_3 : PW B X 140 3 lv (.int q1 :: .int q0 :: .ref a :: st) h Q ↔ (pm_w st ≤ 8 ∧ pm_io B h a 10 = true ∧ PW B X 118 0 [some (.ref a), some (.int q0), some (.int q1), none] [] h (fun r h' => PW B X 140 6 lv (r.toList ++ st) h' Q)) := PW_cv (y := 118) (as := [.int q0, .int q1]) (rest := st) rfl rfl rfl rfl rfl ⟨Nat.le_of_ble_eq_true rfl, Nat.le_of_ble_eq_true rfl, Nat.le_of_ble_eq_true rfl⟩
theorem u_140_6 : PW B X 140 6 [some (.ref a), v1, v2, v3] (st) h Q ↔ PW B X 140 7 [some (.ref a), v1, v2, v3] (.ref a :: st) h Q := PW_step rfl rfl rfl rfl
theorem u_140_6n : PW B X 140 6 [some .null, v1, v2, v3] (st) h Q ↔ PW B X 140 7 [some .null, v1, v2, v3] (.null :: st) h Q := PW_step rfl rfl rfl rfl
theorem u_140_7 : PW B X 140 7 lv (.ref a :: st) h Q ↔ pm_O (pm_gf (pm_at B h a) 10 29) (fun v => PW B X 140 10 lv (v :: st) h Q) := PW_getf rfl rfl
theorem u_140_10 : PW B X 140 10 lv (st) h Q ↔ PW B X 140 11 lv (.int 2 :: st) h Q := PW_step rfl rfl rfl rfl
theorem u_140_11 : PW B X 140 11 [v0, v1, v2, some (.int x)] (st) h Q ↔ PW B X 140 12 [v0, v1, v2, some (.int x)] (.int x :: st) h Q := PW_step rfl rfl rfl rfl
theorem u_140_12 : PW B X 140 12 lv (.int x :: st) h Q ↔ (if ¬ x = 0 then PW B X 140 24 lv (st) h Q else PW B X 140 15 lv (st) h Q) := PW_if rfl rfl pm_c_ne
theorem u_140_15 : PW B X 140 15 [some (.ref a), v1, v2, v3] (st) h Q ↔ PW B X 140 16 [some (.ref a), v1, v2, v3] (.ref a :: st) h Q := PW_step rfl rfl rfl rfl
theorem u_140_15n : PW B X 140 15 [some .null, v1, v2, v3] (st) h Q ↔ PW B X 140 16 [some .null, v1, v2, v3] (.null :: st) h Q := PW_step rfl rfl rfl rfl
theorem u_140_16 : PW B X 140 16 lv (.ref a :: st) h Q ↔ pm_O (pm_gf (pm_at B h a) 10 29) (fun v => PW B X 140 19 lv (v :: st) h Q) := PW_getf rfl rfl
theorem u_140_19 : PW B X 140 19 lv (st) h Q ↔ PW B X 140 20 lv (.int 2 :: st) h Q := PW_step rfl rfl rfl rfl
theorem u_140_20 : PW B X 140 20 lv (.int x :: .ref a :: st) h Q ↔ pm_O (pm_ldi 0 (pm_at B h a) x) (fun v => PW B X 140 21 lv (v :: st) h Q) := PW_iald rfl rfl
theorem u_140_21 : PW B X 140 21 lv (.int x :: st) h Q ↔ (if ¬ x = 0 then PW B X 140 33 lv (st) h Q else PW B X 140 24 lv (st) h Q) := PW_if rfl rfl pm_c_ne
theorem u_140_24 : PW B X 140 24 [some (.ref a), v1, v2, v3] (st) h Q ↔ PW B X 140 25 [some (.ref a), v1, v2, v3] (.ref a :: st) h Q := PW_step rfl rfl rfl rfl
theorem u_140_24n : PW B X 140 24 [some .null, v1, v2, v3] (st) h Q ↔ PW B X 140 25 [some .null, v1, v2, v3] (.null :: st) h Q := PW_step rfl rfl rfl rfl
theorem u_140_25 : PW B X 140 25 lv (.ref a :: st) h Q ↔ pm_O (pm_gf (pm_at B h a) 10 29) (fun v => PW B X 140 28 lv (v :: st) h Q) := PW_getf rfl rfl
theorem u_140_28 : PW B X 140 28 lv (st) h Q ↔ PW B X 140 29 lv (.int 2 :: st) h Q := PW_step rfl rfl rfl rfl
theorem u_140_29 : PW B X 140 29 lv (.int x :: .ref a :: st) h Q ↔ pm_O (pm_ldi 0 (pm_at B h a) x) (fun v => PW B X 140 30 lv (v :: st) h Q) := PW_iald rfl rfl
theorem u_140_30 : PW B X 140 30 lv (st) h Q ↔ PW B X 140 34 lv (st) h Q := PW_step rfl rfl rfl rfl
theorem u_140_33 : PW B X 140 33 lv (st) h Q ↔ PW B X 140 34 lv (.int 1 :: st) h Q := PW_step rfl rfl rfl rfl
theorem u_140_34 : PW B X 140 34 lv (.int y :: .int x :: .ref a :: st) h Q ↔ pm_O (pm_sti 0 (pm_at B h a) x y) (fun e => PW B X 140 35 lv (st) (pm_set B h a e) Q) := PW_iast rfl
theorem u_140_35 : PW B X 140 35 [some (.ref a), v1, v2, v3] (st) h Q ↔ PW B X 140 36 [some (.ref a), v1, v2, v3] (.ref a :: st) h Q := PW_step rfl rfl rfl rfl
theorem u_140_35n : PW B X 140 35 [some .null, v1, v2, v3] (st) h Q ↔ PW B X 140 36 [some .null, v1, v2, v3] (.null :: st) h Q := PW_step rfl rfl rfl rfl
theorem u_140_36 : PW B X 140 36 lv (st) h Q ↔ PW B X 140 37 lv (.int 3 :: st) h Q := PW_step rfl rfl rfl rfl
theorem u_140_37 : PW B X 140 37 [v0, some (.int x), v2, v3] (st) h Q ↔ PW B X 140 38 [v0, some (.int x), v2, v3] (.int x :: st) h Q := PW_step rfl rfl rfl rfl
theorem u_140_38 : PW B X 140 38 lv (.int q1 :: .int q0 :: .ref a :: st) h Q ↔ (pm_w st ≤ 8 ∧ pm_io B h a 10 = true ∧ PW B X 111 0 [some (.ref a), some (.int q0), some (.int q1)] [] h (fun r h' => PW B X 140 41 lv (r.toList ++ st) h' Q)) := PW_cv (y := 111) (as := [.int q0, .int q1]) (rest := st) rfl rfl rfl rfl rfl ⟨Nat.le_of_ble_eq_true rfl, Nat.le_of_ble_eq_true rfl, Nat.le_of_ble_eq_true rfl⟩
theorem u_140_41 : PW B X 140 41 [some (.ref a), v1, v2, v3] (st) h Q ↔ PW B X 140 42 [some (.ref a), v1, v2, v3] (.ref a :: st) h Q := PW_step rfl rfl rfl rfl
theorem u_140_41n : PW B X 140 41 [some .null, v1, v2, v3] (st) h Q ↔ PW B X 140 42 [some .null, v1, v2, v3] (.null :: st) h Q := PW_step rfl rfl rfl rfl
theorem u_140_42 : PW B X 140 42 lv (st) h Q ↔ PW B X 140 43 lv (.int 3 :: st) h Q := PW_step rfl rfl rfl rfl
theorem u_140_43 : PW B X 140 43 lv (st) h Q ↔ PW B X 140 44 lv (.int 2 :: st) h Q := PW_step rfl rfl rfl rfl
theorem u_140_44 : PW B X 140 44 lv (.int q1 :: .int q0 :: .ref a :: st) h Q ↔ (pm_w st ≤ 8 ∧ pm_io B h a 10 = true ∧ PW B X 121 0 [some (.ref a), some (.int q0), some (.int q1)] [] h (fun r h' => PW B X 140 47 lv (r.toList ++ st) h' Q)) := PW_cv (y := 121) (as := [.int q0, .int q1]) (rest := st) rfl rfl rfl rfl rfl ⟨Nat.le_of_ble_eq_true rfl, Nat.le_of_ble_eq_true rfl, Nat.le_of_ble_eq_true rfl⟩
theorem u_140_47 : PW B X 140 47 lv (.int x :: st) h Q ↔ (if x < 0 then PW B X 140 54 lv (st) h Q else PW B X 140 50 lv (st) h Q) := PW_if rfl rfl pm_c_lt
theorem u_140_50 : PW B X 140 50 lv (st) h Q ↔ PW B X 140 51 lv (.int 1 :: st) h Q := PW_step rfl rfl rfl rfl
theorem u_140_51 : PW B X 140 51 lv (st) h Q ↔ PW B X 140 55 lv (st) h Q := PW_step rfl rfl rfl rfl
theorem u_140_54 : PW B X 140 54 lv (st) h Q ↔ PW B X 140 55 lv (.int 0 :: st) h Q := PW_step rfl rfl rfl rfl
theorem u_140_55 (hx : narrow .boolean (.int x) = .int x) : PW B X 140 55 lv ([.int x]) h Q ↔ Q (some (.int x)) h := PW_bret rfl rfl (by simp) hx
theorem u_140_55_0 : PW B X 140 55 lv ([.int 0]) h Q ↔ Q (some (.int 0)) h := u_140_55 rfl
theorem u_140_55_1 : PW B X 140 55 lv ([.int 1]) h Q ↔ Q (some (.int 1)) h := u_140_55 rfl
-- 141 Ref_jack
theorem u_141_0 : PW B X 141 0 [v0, some (.int x), v2] (st) h Q ↔ PW B X 141 1 [v0, some (.int x), v2] (.int x :: st) h Q := PW_step rfl rfl rfl rfl
theorem u_141_1 : PW B X 141 1 lv (.int x :: st) h Q ↔ PW B X 141 2 lv (.long x.toInt64 :: st) h Q := PW_step rfl rfl rfl rfl
theorem u_141_2 : PW B X 141 2 lv (st) h Q ↔ PW B X 141 3 lv (.long 1 :: st) h Q := PW_step rfl rfl rfl rfl
theorem u_141_3 : PW B X 141 3 lv (st) h Q ↔ PW B X 141 6 lv (.long 10000 :: st) h Q := PW_step rfl rfl rfl rfl
theorem u_141_6 : PW B X 141 6 lv (.long p2 :: .long p1 :: .long p0 :: st) h Q ↔ (pm_w st ≤ 8 ∧ PW B X 94 0 [some (.long p0), none, some (.long p1), none, some (.long p2), none] [] h (fun r h' => PW B X 141 9 lv (r.toList ++ st) h' Q)) := PW_cs (y := 94) (as := [.long p0, .long p1, .long p2]) (rest := st) rfl rfl rfl rfl rfl ⟨Nat.le_of_ble_eq_true rfl, Nat.le_of_ble_eq_true rfl, Nat.le_of_ble_eq_true rfl⟩
theorem u_141_9 : PW B X 141 9 lv (.int x :: st) h Q ↔ (if x = 0 then PW B X 141 31 lv (st) h Q else PW B X 141 12 lv (st) h Q) := PW_if rfl rfl pm_c_eq
theorem u_141_12 : PW B X 141 12 [v0, v1, some (.int x)] (st) h Q ↔ PW B X 141 13 [v0, v1, some (.int x)] (.int x :: st) h Q := PW_step rfl rfl rfl rfl
theorem u_141_13 : PW B X 141 13 lv (.int x :: st) h Q ↔ PW B X 141 14 lv (.long x.toInt64 :: st) h Q := PW_step rfl rfl rfl rfl
theorem u_141_14 : PW B X 141 14 lv (st) h Q ↔ PW B X 141 15 lv (.long 1 :: st) h Q := PW_step rfl rfl rfl rfl
theorem u_141_15 : PW B X 141 15 lv (st) h Q ↔ PW B X 141 18 lv (.long 10000 :: st) h Q := PW_step rfl rfl rfl rfl
theorem u_141_18 : PW B X 141 18 lv (.long p2 :: .long p1 :: .long p0 :: st) h Q ↔ (pm_w st ≤ 8 ∧ PW B X 94 0 [some (.long p0), none, some (.long p1), none, some (.long p2), none] [] h (fun r h' => PW B X 141 21 lv (r.toList ++ st) h' Q)) := PW_cs (y := 94) (as := [.long p0, .long p1, .long p2]) (rest := st) rfl rfl rfl rfl rfl ⟨Nat.le_of_ble_eq_true rfl, Nat.le_of_ble_eq_true rfl, Nat.le_of_ble_eq_true rfl⟩
theorem u_141_21 : PW B X 141 21 lv (.int x :: st) h Q ↔ (if x = 0 then PW B X 141 31 lv (st) h Q else PW B X 141 24 lv (st) h Q) := PW_if rfl rfl pm_c_eq
theorem u_141_24 : PW B X 141 24 [some (.ref a), v1, v2] (st) h Q ↔ PW B X 141 25 [some (.ref a), v1, v2] (.ref a :: st) h Q := PW_step rfl rfl rfl rfl
theorem u_141_24n : PW B X 141 24 [some .null, v1, v2] (st) h Q ↔ PW B X 141 25 [some .null, v1, v2] (.null :: st) h Q := PW_step rfl rfl rfl rfl
theorem u_141_25 : PW B X 141 25 lv (.ref a :: st) h Q ↔ pm_O (pm_gf (pm_at B h a) 10 0) (fun v => PW B X 141 28 lv (v :: st) h Q) := PW_getf rfl rfl
theorem u_141_28 : PW B X 141 28 lv (.int x :: st) h Q ↔ (if ¬ x = 0 then PW B X 141 33 lv (st) h Q else PW B X 141 31 lv (st) h Q) := PW_if rfl rfl pm_c_ne
theorem u_141_31 : PW B X 141 31 lv (st) h Q ↔ PW B X 141 32 lv (.int (-1) :: st) h Q := PW_step rfl rfl rfl rfl
theorem u_141_32 : PW B X 141 32 lv ([.int x]) h Q ↔ Q (some (.int x)) h := PW_ret rfl rfl
theorem u_141_33 : PW B X 141 33 [some (.ref a), v1, v2] (st) h Q ↔ PW B X 141 34 [some (.ref a), v1, v2] (.ref a :: st) h Q := PW_step rfl rfl rfl rfl
theorem u_141_33n : PW B X 141 33 [some .null, v1, v2] (st) h Q ↔ PW B X 141 34 [some .null, v1, v2] (.null :: st) h Q := PW_step rfl rfl rfl rfl
theorem u_141_34 : PW B X 141 34 [v0, some (.int x), v2] (st) h Q ↔ PW B X 141 35 [v0, some (.int x), v2] (.int x :: st) h Q := PW_step rfl rfl rfl rfl
theorem u_141_35 : PW B X 141 35 lv (v :: .ref a :: st) h Q ↔ pm_O (pm_pf (pm_at B h a) 10 24 v) (fun e => PW B X 141 38 lv (st) (pm_set B h a e) Q) := PW_putf rfl rfl
theorem u_141_38 : PW B X 141 38 [some (.ref a), v1, v2] (st) h Q ↔ PW B X 141 39 [some (.ref a), v1, v2] (.ref a :: st) h Q := PW_step rfl rfl rfl rfl
theorem u_141_38n : PW B X 141 38 [some .null, v1, v2] (st) h Q ↔ PW B X 141 39 [some .null, v1, v2] (.null :: st) h Q := PW_step rfl rfl rfl rfl
theorem u_141_39 : PW B X 141 39 [v0, v1, some (.int x)] (st) h Q ↔ PW B X 141 40 [v0, v1, some (.int x)] (.int x :: st) h Q := PW_step rfl rfl rfl rfl
theorem u_141_40 : PW B X 141 40 lv (v :: .ref a :: st) h Q ↔ pm_O (pm_pf (pm_at B h a) 10 25 v) (fun e => PW B X 141 43 lv (st) (pm_set B h a e) Q) := PW_putf rfl rfl
theorem u_141_43 : PW B X 141 43 [v0, some (.int x), v2] (st) h Q ↔ PW B X 141 44 [v0, some (.int x), v2] (.int x :: st) h Q := PW_step rfl rfl rfl rfl
theorem u_141_44 : PW B X 141 44 [v0, v1, some (.int x)] (st) h Q ↔ PW B X 141 45 [v0, v1, some (.int x)] (.int x :: st) h Q := PW_step rfl rfl rfl rfl
theorem u_141_45 : PW B X 141 45 lv (.int y :: .int x :: st) h Q ↔ PW B X 141 46 lv (.int (x + y) :: st) h Q := PW_step rfl rfl rfl rfl
theorem u_141_46 : PW B X 141 46 lv (st) h Q ↔ PW B X 141 47 lv (.int 1 :: st) h Q := PW_step rfl rfl rfl rfl
theorem u_141_47 : PW B X 141 47 lv (.int y :: .int x :: st) h Q ↔ PW B X 141 48 lv (.int (x - y) :: st) h Q := PW_step rfl rfl rfl rfl
theorem u_141_48 : PW B X 141 48 [v0, v1, some (.int x)] (st) h Q ↔ PW B X 141 49 [v0, v1, some (.int x)] (.int x :: st) h Q := PW_step rfl rfl rfl rfl
theorem u_141_49 : PW B X 141 49 lv (.int y :: .int x :: st) h Q ↔ (¬ y = 0 ∧ PW B X 141 50 lv (.int (x / y) :: st) h Q) := PW_idiv rfl
theorem u_141_50 : PW B X 141 50 [some (.ref a), v1, v2] (st) h Q ↔ PW B X 141 51 [some (.ref a), v1, v2] (.ref a :: st) h Q := PW_step rfl rfl rfl rfl
theorem u_141_50n : PW B X 141 50 [some .null, v1, v2] (st) h Q ↔ PW B X 141 51 [some .null, v1, v2] (.null :: st) h Q := PW_step rfl rfl rfl rfl
theorem u_141_51 : PW B X 141 51 lv (.ref a :: st) h Q ↔ pm_O (pm_gf (pm_at B h a) 10 0) (fun v => PW B X 141 54 lv (v :: st) h Q) := PW_getf rfl rfl
theorem u_141_54 : PW B X 141 54 lv (.int y :: .int x :: st) h Q ↔ PW B X 141 55 lv (.int (x * y) :: st) h Q := PW_step rfl rfl rfl rfl
theorem u_141_55 : PW B X 141 55 lv ([.int x]) h Q ↔ Q (some (.int x)) h := PW_ret rfl rfl
-- 142 Ref_raised
theorem u_142_0 : PW B X 142 0 [some (.ref a), v1, v2, v3, v4, v5] (st) h Q ↔ PW B X 142 1 [some (.ref a), v1, v2, v3, v4, v5] (.ref a :: st) h Q := PW_step rfl rfl rfl rfl
theorem u_142_0n : PW B X 142 0 [some .null, v1, v2, v3, v4, v5] (st) h Q ↔ PW B X 142 1 [some .null, v1, v2, v3, v4, v5] (.null :: st) h Q := PW_step rfl rfl rfl rfl
theorem u_142_1 : PW B X 142 1 lv (.ref a :: st) h Q ↔ pm_O (pm_gf (pm_at B h a) 10 25) (fun v => PW B X 142 4 lv (v :: st) h Q) := PW_getf rfl rfl
theorem u_142_4 : PW B X 142 4 lv (.int x :: st) h Q ↔ (if x = 0 then PW B X 142 46 lv (st) h Q else PW B X 142 7 lv (st) h Q) := PW_if rfl rfl pm_c_eq
theorem u_142_7 : PW B X 142 7 [some (.ref a), v1, v2, v3, v4, v5] (st) h Q ↔ PW B X 142 8 [some (.ref a), v1, v2, v3, v4, v5] (.ref a :: st) h Q := PW_step rfl rfl rfl rfl
theorem u_142_7n : PW B X 142 7 [some .null, v1, v2, v3, v4, v5] (st) h Q ↔ PW B X 142 8 [some .null, v1, v2, v3, v4, v5] (.null :: st) h Q := PW_step rfl rfl rfl rfl
theorem u_142_8 : PW B X 142 8 [v0, v1, some (.int x), v3, v4, v5] (st) h Q ↔ PW B X 142 9 [v0, v1, some (.int x), v3, v4, v5] (.int x :: st) h Q := PW_step rfl rfl rfl rfl
theorem u_142_9 : PW B X 142 9 lv (.int q0 :: .ref a :: st) h Q ↔ (pm_w st ≤ 8 ∧ pm_io B h a 10 = true ∧ PW B X 96 0 [some (.ref a), some (.int q0)] [] h (fun r h' => PW B X 142 12 lv (r.toList ++ st) h' Q)) := PW_cv (y := 96) (as := [.int q0]) (rest := st) rfl rfl rfl rfl rfl ⟨Nat.le_of_ble_eq_true rfl, Nat.le_of_ble_eq_true rfl, Nat.le_of_ble_eq_true rfl⟩
theorem u_142_12 : PW B X 142 12 lv (.int x :: st) h Q ↔ (if x = 0 then PW B X 142 46 lv (st) h Q else PW B X 142 15 lv (st) h Q) := PW_if rfl rfl pm_c_eq
theorem u_142_15 : PW B X 142 15 [v0, some (.int x), v2, v3, v4, v5] (st) h Q ↔ PW B X 142 16 [v0, some (.int x), v2, v3, v4, v5] (.int x :: st) h Q := PW_step rfl rfl rfl rfl
theorem u_142_16 : PW B X 142 16 lv (.int x :: st) h Q ↔ PW B X 142 17 lv (.long x.toInt64 :: st) h Q := PW_step rfl rfl rfl rfl
theorem u_142_17 : PW B X 142 17 lv (st) h Q ↔ PW B X 142 18 lv (.long 0 :: st) h Q := PW_step rfl rfl rfl rfl
theorem u_142_18 : PW B X 142 18 [some (.ref a), v1, v2, v3, v4, v5] (st) h Q ↔ PW B X 142 19 [some (.ref a), v1, v2, v3, v4, v5] (.ref a :: st) h Q := PW_step rfl rfl rfl rfl
theorem u_142_18n : PW B X 142 18 [some .null, v1, v2, v3, v4, v5] (st) h Q ↔ PW B X 142 19 [some .null, v1, v2, v3, v4, v5] (.null :: st) h Q := PW_step rfl rfl rfl rfl
theorem u_142_19 : PW B X 142 19 lv (.ref a :: st) h Q ↔ pm_O (pm_gf (pm_at B h a) 10 24) (fun v => PW B X 142 22 lv (v :: st) h Q) := PW_getf rfl rfl
theorem u_142_22 : PW B X 142 22 [some (.ref a), v1, v2, v3, v4, v5] (st) h Q ↔ PW B X 142 23 [some (.ref a), v1, v2, v3, v4, v5] (.ref a :: st) h Q := PW_step rfl rfl rfl rfl
theorem u_142_22n : PW B X 142 22 [some .null, v1, v2, v3, v4, v5] (st) h Q ↔ PW B X 142 23 [some .null, v1, v2, v3, v4, v5] (.null :: st) h Q := PW_step rfl rfl rfl rfl
theorem u_142_23 : PW B X 142 23 lv (.ref a :: st) h Q ↔ pm_O (pm_gf (pm_at B h a) 10 25) (fun v => PW B X 142 26 lv (v :: st) h Q) := PW_getf rfl rfl
theorem u_142_26 : PW B X 142 26 lv (.int y :: .int x :: st) h Q ↔ PW B X 142 27 lv (.int (x + y) :: st) h Q := PW_step rfl rfl rfl rfl
theorem u_142_27 : PW B X 142 27 lv (st) h Q ↔ PW B X 142 28 lv (.int 1 :: st) h Q := PW_step rfl rfl rfl rfl
theorem u_142_28 : PW B X 142 28 lv (.int y :: .int x :: st) h Q ↔ PW B X 142 29 lv (.int (x - y) :: st) h Q := PW_step rfl rfl rfl rfl
theorem u_142_29 : PW B X 142 29 [some (.ref a), v1, v2, v3, v4, v5] (st) h Q ↔ PW B X 142 30 [some (.ref a), v1, v2, v3, v4, v5] (.ref a :: st) h Q := PW_step rfl rfl rfl rfl
theorem u_142_29n : PW B X 142 29 [some .null, v1, v2, v3, v4, v5] (st) h Q ↔ PW B X 142 30 [some .null, v1, v2, v3, v4, v5] (.null :: st) h Q := PW_step rfl rfl rfl rfl
theorem u_142_30 : PW B X 142 30 lv (.ref a :: st) h Q ↔ pm_O (pm_gf (pm_at B h a) 10 25) (fun v => PW B X 142 33 lv (v :: st) h Q) := PW_getf rfl rfl
theorem u_142_33 : PW B X 142 33 lv (.int y :: .int x :: st) h Q ↔ (¬ y = 0 ∧ PW B X 142 34 lv (.int (x / y) :: st) h Q) := PW_idiv rfl
theorem u_142_34 : PW B X 142 34 [some (.ref a), v1, v2, v3, v4, v5] (st) h Q ↔ PW B X 142 35 [some (.ref a), v1, v2, v3, v4, v5] (.ref a :: st) h Q := PW_step rfl rfl rfl rfl
theorem u_142_34n : PW B X 142 34 [some .null, v1, v2, v3, v4, v5] (st) h Q ↔ PW B X 142 35 [some .null, v1, v2, v3, v4, v5] (.null :: st) h Q := PW_step rfl rfl rfl rfl
theorem u_142_35 : PW B X 142 35 lv (.ref a :: st) h Q ↔ pm_O (pm_gf (pm_at B h a) 10 0) (fun v => PW B X 142 38 lv (v :: st) h Q) := PW_getf rfl rfl
theorem u_142_38 : PW B X 142 38 lv (.int y :: .int x :: st) h Q ↔ PW B X 142 39 lv (.int (x * y) :: st) h Q := PW_step rfl rfl rfl rfl
theorem u_142_39 : PW B X 142 39 lv (.int x :: st) h Q ↔ PW B X 142 40 lv (.long x.toInt64 :: st) h Q := PW_step rfl rfl rfl rfl
theorem u_142_40 : PW B X 142 40 lv (.long p2 :: .long p1 :: .long p0 :: st) h Q ↔ (pm_w st ≤ 8 ∧ PW B X 94 0 [some (.long p0), none, some (.long p1), none, some (.long p2), none] [] h (fun r h' => PW B X 142 43 lv (r.toList ++ st) h' Q)) := PW_cs (y := 94) (as := [.long p0, .long p1, .long p2]) (rest := st) rfl rfl rfl rfl rfl ⟨Nat.le_of_ble_eq_true rfl, Nat.le_of_ble_eq_true rfl, Nat.le_of_ble_eq_true rfl⟩
theorem u_142_43 : PW B X 142 43 lv (.int x :: st) h Q ↔ (if ¬ x = 0 then PW B X 142 48 lv (st) h Q else PW B X 142 46 lv (st) h Q) := PW_if rfl rfl pm_c_ne
theorem u_142_46 : PW B X 142 46 lv (st) h Q ↔ PW B X 142 47 lv (.int (-1) :: st) h Q := PW_step rfl rfl rfl rfl
theorem u_142_47 : PW B X 142 47 lv ([.int x]) h Q ↔ Q (some (.int x)) h := PW_ret rfl rfl
theorem u_142_48 : PW B X 142 48 [v0, some (.int x), v2, v3, v4, v5] (st) h Q ↔ PW B X 142 49 [v0, some (.int x), v2, v3, v4, v5] (.int x :: st) h Q := PW_step rfl rfl rfl rfl
theorem u_142_49 : PW B X 142 49 [some (.ref a), v1, v2, v3, v4, v5] (st) h Q ↔ PW B X 142 50 [some (.ref a), v1, v2, v3, v4, v5] (.ref a :: st) h Q := PW_step rfl rfl rfl rfl
theorem u_142_49n : PW B X 142 49 [some .null, v1, v2, v3, v4, v5] (st) h Q ↔ PW B X 142 50 [some .null, v1, v2, v3, v4, v5] (.null :: st) h Q := PW_step rfl rfl rfl rfl
theorem u_142_50 : PW B X 142 50 lv (.ref a :: st) h Q ↔ pm_O (pm_gf (pm_at B h a) 10 0) (fun v => PW B X 142 53 lv (v :: st) h Q) := PW_getf rfl rfl
theorem u_142_53 : PW B X 142 53 lv (.int y :: .int x :: st) h Q ↔ (¬ y = 0 ∧ PW B X 142 54 lv (.int (x / y) :: st) h Q) := PW_idiv rfl
theorem u_142_54 : PW B X 142 54 [v0, v1, some (.int x), v3, v4, v5] (st) h Q ↔ PW B X 142 55 [v0, v1, some (.int x), v3, v4, v5] (.int x :: st) h Q := PW_step rfl rfl rfl rfl
theorem u_142_55 : PW B X 142 55 [v0, some (.int x), v2, v3, v4, v5] (st) h Q ↔ PW B X 142 56 [v0, some (.int x), v2, v3, v4, v5] (.int x :: st) h Q := PW_step rfl rfl rfl rfl
theorem u_142_56 : PW B X 142 56 [some (.ref a), v1, v2, v3, v4, v5] (st) h Q ↔ PW B X 142 57 [some (.ref a), v1, v2, v3, v4, v5] (.ref a :: st) h Q := PW_step rfl rfl rfl rfl
theorem u_142_56n : PW B X 142 56 [some .null, v1, v2, v3, v4, v5] (st) h Q ↔ PW B X 142 57 [some .null, v1, v2, v3, v4, v5] (.null :: st) h Q := PW_step rfl rfl rfl rfl
theorem u_142_57 : PW B X 142 57 lv (.ref a :: st) h Q ↔ pm_O (pm_gf (pm_at B h a) 10 0) (fun v => PW B X 142 60 lv (v :: st) h Q) := PW_getf rfl rfl
theorem u_142_60 : PW B X 142 60 lv (.int y :: .int x :: st) h Q ↔ (¬ y = 0 ∧ PW B X 142 61 lv (.int (x - x / y * y) :: st) h Q) := PW_irem rfl
theorem u_142_61 : PW B X 142 61 lv (.int y :: .int x :: st) h Q ↔ (if y ≤ x then PW B X 142 68 lv (st) h Q else PW B X 142 64 lv (st) h Q) := PW_icmp rfl rfl pm_c_ge
theorem u_142_64 : PW B X 142 64 lv (st) h Q ↔ PW B X 142 65 lv (.int 1 :: st) h Q := PW_step rfl rfl rfl rfl
theorem u_142_65 : PW B X 142 65 lv (st) h Q ↔ PW B X 142 69 lv (st) h Q := PW_step rfl rfl rfl rfl
theorem u_142_68 : PW B X 142 68 lv (st) h Q ↔ PW B X 142 69 lv (.int 0 :: st) h Q := PW_step rfl rfl rfl rfl
theorem u_142_69 : PW B X 142 69 lv (.int y :: .int x :: st) h Q ↔ PW B X 142 70 lv (.int (x + y) :: st) h Q := PW_step rfl rfl rfl rfl
theorem u_142_70 : PW B X 142 70 [v0, v1, v2, v3, v4, v5] (.int x :: st) h Q ↔ PW B X 142 71 [v0, v1, pm_c v2, some (.int x), v4, v5] (st) h Q := PW_step rfl rfl rfl rfl
theorem u_142_71 : PW B X 142 71 [v0, v1, v2, some (.int x), v4, v5] (st) h Q ↔ PW B X 142 72 [v0, v1, v2, some (.int x), v4, v5] (.int x :: st) h Q := PW_step rfl rfl rfl rfl
theorem u_142_72 : PW B X 142 72 lv (.int x :: st) h Q ↔ PW B X 142 73 lv (.long x.toInt64 :: st) h Q := PW_step rfl rfl rfl rfl
theorem u_142_73 : PW B X 142 73 [some (.ref a), v1, v2, v3, v4, v5] (st) h Q ↔ PW B X 142 74 [some (.ref a), v1, v2, v3, v4, v5] (.ref a :: st) h Q := PW_step rfl rfl rfl rfl
theorem u_142_73n : PW B X 142 73 [some .null, v1, v2, v3, v4, v5] (st) h Q ↔ PW B X 142 74 [some .null, v1, v2, v3, v4, v5] (.null :: st) h Q := PW_step rfl rfl rfl rfl
theorem u_142_74 : PW B X 142 74 lv (.ref a :: st) h Q ↔ pm_O (pm_gf (pm_at B h a) 10 25) (fun v => PW B X 142 77 lv (v :: st) h Q) := PW_getf rfl rfl
theorem u_142_77 : PW B X 142 77 lv (.int x :: st) h Q ↔ PW B X 142 78 lv (.long x.toInt64 :: st) h Q := PW_step rfl rfl rfl rfl
theorem u_142_78 : PW B X 142 78 lv (.long w :: .long z :: st) h Q ↔ PW B X 142 79 lv (.long (z * w) :: st) h Q := PW_step rfl rfl rfl rfl
theorem u_142_79 : PW B X 142 79 [v0, v1, v2, v3, v4, v5] (.long z :: st) h Q ↔ PW B X 142 81 [v0, v1, v2, pm_c v3, some (.long z), none] (st) h Q := PW_step rfl rfl rfl rfl
theorem u_142_81 : PW B X 142 81 [v0, v1, v2, v3, some (.long z), v5] (st) h Q ↔ PW B X 142 83 [v0, v1, v2, v3, some (.long z), v5] (.long z :: st) h Q := PW_step rfl rfl rfl rfl
theorem u_142_83 : PW B X 142 83 [some (.ref a), v1, v2, v3, v4, v5] (st) h Q ↔ PW B X 142 84 [some (.ref a), v1, v2, v3, v4, v5] (.ref a :: st) h Q := PW_step rfl rfl rfl rfl
theorem u_142_83n : PW B X 142 83 [some .null, v1, v2, v3, v4, v5] (st) h Q ↔ PW B X 142 84 [some .null, v1, v2, v3, v4, v5] (.null :: st) h Q := PW_step rfl rfl rfl rfl
theorem u_142_84 : PW B X 142 84 lv (.ref a :: st) h Q ↔ pm_O (pm_gf (pm_at B h a) 10 24) (fun v => PW B X 142 87 lv (v :: st) h Q) := PW_getf rfl rfl
theorem u_142_87 : PW B X 142 87 lv (.int x :: st) h Q ↔ PW B X 142 88 lv (.long x.toInt64 :: st) h Q := PW_step rfl rfl rfl rfl
theorem u_142_88 : PW B X 142 88 lv (.long w :: .long z :: st) h Q ↔ PW B X 142 89 lv (.int (lg_cmp z w) :: st) h Q := PW_step rfl rfl rfl rfl
theorem u_142_89 : PW B X 142 89 lv (.int x :: st) h Q ↔ (if x ≤ 0 then PW B X 142 99 lv (st) h Q else PW B X 142 92 lv (st) h Q) := PW_if rfl rfl pm_c_le
theorem u_142_92 : PW B X 142 92 [some (.ref a), v1, v2, v3, v4, v5] (st) h Q ↔ PW B X 142 93 [some (.ref a), v1, v2, v3, v4, v5] (.ref a :: st) h Q := PW_step rfl rfl rfl rfl
theorem u_142_92n : PW B X 142 92 [some .null, v1, v2, v3, v4, v5] (st) h Q ↔ PW B X 142 93 [some .null, v1, v2, v3, v4, v5] (.null :: st) h Q := PW_step rfl rfl rfl rfl
theorem u_142_93 : PW B X 142 93 lv (.ref a :: st) h Q ↔ pm_O (pm_gf (pm_at B h a) 10 24) (fun v => PW B X 142 96 lv (v :: st) h Q) := PW_getf rfl rfl
theorem u_142_96 : PW B X 142 96 lv (st) h Q ↔ PW B X 142 102 lv (st) h Q := PW_step rfl rfl rfl rfl
theorem u_142_99 : PW B X 142 99 [v0, v1, v2, v3, some (.long z), v5] (st) h Q ↔ PW B X 142 101 [v0, v1, v2, v3, some (.long z), v5] (.long z :: st) h Q := PW_step rfl rfl rfl rfl
theorem u_142_101 : PW B X 142 101 lv (.long z :: st) h Q ↔ PW B X 142 102 lv (.int z.toInt32 :: st) h Q := PW_step rfl rfl rfl rfl
theorem u_142_102 : PW B X 142 102 lv ([.int x]) h Q ↔ Q (some (.int x)) h := PW_ret rfl rfl
-- 143 Ref_inspect
theorem u_143_0 : PW B X 143 0 [some (.ref a), v1, v2, v3, v4] (st) h Q ↔ PW B X 143 1 [some (.ref a), v1, v2, v3, v4] (.ref a :: st) h Q := PW_step rfl rfl rfl rfl
theorem u_143_0n : PW B X 143 0 [some .null, v1, v2, v3, v4] (st) h Q ↔ PW B X 143 1 [some .null, v1, v2, v3, v4] (.null :: st) h Q := PW_step rfl rfl rfl rfl
theorem u_143_1 : PW B X 143 1 [v0, some (.int x), v2, v3, v4] (st) h Q ↔ PW B X 143 2 [v0, some (.int x), v2, v3, v4] (.int x :: st) h Q := PW_step rfl rfl rfl rfl
theorem u_143_2 : PW B X 143 2 lv (.int q0 :: .ref a :: st) h Q ↔ (pm_w st ≤ 8 ∧ pm_io B h a 10 = true ∧ PW B X 96 0 [some (.ref a), some (.int q0)] [] h (fun r h' => PW B X 143 5 lv (r.toList ++ st) h' Q)) := PW_cv (y := 96) (as := [.int q0]) (rest := st) rfl rfl rfl rfl rfl ⟨Nat.le_of_ble_eq_true rfl, Nat.le_of_ble_eq_true rfl, Nat.le_of_ble_eq_true rfl⟩
theorem u_143_5 : PW B X 143 5 lv (.int x :: st) h Q ↔ (if ¬ x = 0 then PW B X 143 10 lv (st) h Q else PW B X 143 8 lv (st) h Q) := PW_if rfl rfl pm_c_ne
theorem u_143_8 : PW B X 143 8 lv (st) h Q ↔ PW B X 143 9 lv (.int (-1) :: st) h Q := PW_step rfl rfl rfl rfl
theorem u_143_9 : PW B X 143 9 lv ([.int x]) h Q ↔ Q (some (.int x)) h := PW_ret rfl rfl
theorem u_143_10 : PW B X 143 10 lv (st) h Q ↔ PW B X 143 11 lv (.int 0 :: st) h Q := PW_step rfl rfl rfl rfl
theorem u_143_11 : PW B X 143 11 [v0, v1, v2, v3, v4] (.int x :: st) h Q ↔ PW B X 143 12 [v0, pm_c v1, some (.int x), v3, v4] (st) h Q := PW_step rfl rfl rfl rfl
theorem u_143_12 : PW B X 143 12 [v0, v1, some (.int x), v3, v4] (st) h Q ↔ PW B X 143 13 [v0, v1, some (.int x), v3, v4] (.int x :: st) h Q := PW_step rfl rfl rfl rfl
theorem u_143_13 : PW B X 143 13 [some (.ref a), v1, v2, v3, v4] (st) h Q ↔ PW B X 143 14 [some (.ref a), v1, v2, v3, v4] (.ref a :: st) h Q := PW_step rfl rfl rfl rfl
theorem u_143_13n : PW B X 143 13 [some .null, v1, v2, v3, v4] (st) h Q ↔ PW B X 143 14 [some .null, v1, v2, v3, v4] (.null :: st) h Q := PW_step rfl rfl rfl rfl
theorem u_143_14 : PW B X 143 14 lv (.ref a :: st) h Q ↔ pm_O (pm_gf (pm_at B h a) 10 0) (fun v => PW B X 143 17 lv (v :: st) h Q) := PW_getf rfl rfl
theorem u_143_17 : PW B X 143 17 lv (.int y :: .int x :: st) h Q ↔ (if y ≤ x then PW B X 143 77 lv (st) h Q else PW B X 143 20 lv (st) h Q) := PW_icmp rfl rfl pm_c_ge
theorem u_143_20 : PW B X 143 20 lv (st) h Q ↔ PW B X 143 21 lv (.int 0 :: st) h Q := PW_step rfl rfl rfl rfl
theorem u_143_21 : PW B X 143 21 [v0, v1, v2, v3, v4] (.int x :: st) h Q ↔ PW B X 143 22 [v0, v1, pm_c v2, some (.int x), v4] (st) h Q := PW_step rfl rfl rfl rfl
theorem u_143_22 : PW B X 143 22 lv (st) h Q ↔ PW B X 143 23 lv (.int 0 :: st) h Q := PW_step rfl rfl rfl rfl
theorem u_143_23 : PW B X 143 23 [v0, v1, v2, v3, v4] (.int x :: st) h Q ↔ PW B X 143 25 [v0, v1, v2, pm_c v3, some (.int x)] (st) h Q := PW_step rfl rfl rfl rfl
theorem u_143_25 : PW B X 143 25 [v0, v1, v2, v3, some (.int x)] (st) h Q ↔ PW B X 143 27 [v0, v1, v2, v3, some (.int x)] (.int x :: st) h Q := PW_step rfl rfl rfl rfl
theorem u_143_27 : PW B X 143 27 [some (.ref a), v1, v2, v3, v4] (st) h Q ↔ PW B X 143 28 [some (.ref a), v1, v2, v3, v4] (.ref a :: st) h Q := PW_step rfl rfl rfl rfl
theorem u_143_27n : PW B X 143 27 [some .null, v1, v2, v3, v4] (st) h Q ↔ PW B X 143 28 [some .null, v1, v2, v3, v4] (.null :: st) h Q := PW_step rfl rfl rfl rfl
theorem u_143_28 : PW B X 143 28 lv (.ref a :: st) h Q ↔ pm_O (pm_gf (pm_at B h a) 10 0) (fun v => PW B X 143 31 lv (v :: st) h Q) := PW_getf rfl rfl
theorem u_143_31 : PW B X 143 31 lv (.int y :: .int x :: st) h Q ↔ (if y ≤ x then PW B X 143 64 lv (st) h Q else PW B X 143 34 lv (st) h Q) := PW_icmp rfl rfl pm_c_ge
theorem u_143_34 : PW B X 143 34 [v0, v1, v2, some (.int x), v4] (st) h Q ↔ PW B X 143 35 [v0, v1, v2, some (.int x), v4] (.int x :: st) h Q := PW_step rfl rfl rfl rfl
theorem u_143_35 : PW B X 143 35 [v0, v1, v2, v3, some (.int x)] (st) h Q ↔ PW B X 143 37 [v0, v1, v2, v3, some (.int x)] (.int x :: st) h Q := PW_step rfl rfl rfl rfl
theorem u_143_37 : PW B X 143 37 [v0, v1, some (.int x), v3, v4] (st) h Q ↔ PW B X 143 38 [v0, v1, some (.int x), v3, v4] (.int x :: st) h Q := PW_step rfl rfl rfl rfl
theorem u_143_38 : PW B X 143 38 lv (.int y :: .int x :: st) h Q ↔ (if x = y then PW B X 143 55 lv (st) h Q else PW B X 143 41 lv (st) h Q) := PW_icmp rfl rfl pm_c_eq
theorem u_143_41 : PW B X 143 41 [some (.ref a), v1, v2, v3, v4] (st) h Q ↔ PW B X 143 42 [some (.ref a), v1, v2, v3, v4] (.ref a :: st) h Q := PW_step rfl rfl rfl rfl
theorem u_143_41n : PW B X 143 41 [some .null, v1, v2, v3, v4] (st) h Q ↔ PW B X 143 42 [some .null, v1, v2, v3, v4] (.null :: st) h Q := PW_step rfl rfl rfl rfl
theorem u_143_42 : PW B X 143 42 [v0, v1, v2, v3, some (.int x)] (st) h Q ↔ PW B X 143 44 [v0, v1, v2, v3, some (.int x)] (.int x :: st) h Q := PW_step rfl rfl rfl rfl
theorem u_143_44 : PW B X 143 44 [v0, v1, some (.int x), v3, v4] (st) h Q ↔ PW B X 143 45 [v0, v1, some (.int x), v3, v4] (.int x :: st) h Q := PW_step rfl rfl rfl rfl
theorem u_143_45 : PW B X 143 45 lv (.int q1 :: .int q0 :: .ref a :: st) h Q ↔ (pm_w st ≤ 8 ∧ pm_io B h a 10 = true ∧ PW B X 144 0 [some (.ref a), some (.int q0), some (.int q1), none] [] h (fun r h' => PW B X 143 48 lv (r.toList ++ st) h' Q)) := PW_cv (y := 144) (as := [.int q0, .int q1]) (rest := st) rfl rfl rfl rfl rfl ⟨Nat.le_of_ble_eq_true rfl, Nat.le_of_ble_eq_true rfl, Nat.le_of_ble_eq_true rfl⟩
theorem u_143_48 : PW B X 143 48 lv (.int x :: st) h Q ↔ (if x = 0 then PW B X 143 55 lv (st) h Q else PW B X 143 51 lv (st) h Q) := PW_if rfl rfl pm_c_eq
theorem u_143_51 : PW B X 143 51 lv (st) h Q ↔ PW B X 143 52 lv (.int 1 :: st) h Q := PW_step rfl rfl rfl rfl
theorem u_143_52 : PW B X 143 52 lv (st) h Q ↔ PW B X 143 56 lv (st) h Q := PW_step rfl rfl rfl rfl
theorem u_143_55 : PW B X 143 55 lv (st) h Q ↔ PW B X 143 56 lv (.int 0 :: st) h Q := PW_step rfl rfl rfl rfl
theorem u_143_56 : PW B X 143 56 lv (.int y :: .int x :: st) h Q ↔ PW B X 143 57 lv (.int (x + y) :: st) h Q := PW_step rfl rfl rfl rfl
theorem u_143_57 : PW B X 143 57 [v0, v1, v2, v3, v4] (.int x :: st) h Q ↔ PW B X 143 58 [v0, v1, pm_c v2, some (.int x), v4] (st) h Q := PW_step rfl rfl rfl rfl
theorem u_143_58 : PW B X 143 58 [v0, v1, v2, v3, some (.int x)] (st) h Q ↔ PW B X 143 61 [v0, v1, v2, pm_c v3, some (.int (x + 1))] (st) h Q := PW_step rfl rfl rfl rfl
theorem u_143_61 : PW B X 143 61 lv (st) h Q ↔ PW B X 143 25 lv (st) h Q := PW_step rfl rfl rfl rfl
theorem u_143_64 : PW B X 143 64 [some (.ref a), v1, v2, v3, v4] (st) h Q ↔ PW B X 143 65 [some (.ref a), v1, v2, v3, v4] (.ref a :: st) h Q := PW_step rfl rfl rfl rfl
theorem u_143_64n : PW B X 143 64 [some .null, v1, v2, v3, v4] (st) h Q ↔ PW B X 143 65 [some .null, v1, v2, v3, v4] (.null :: st) h Q := PW_step rfl rfl rfl rfl
theorem u_143_65 : PW B X 143 65 lv (.ref a :: st) h Q ↔ pm_O (pm_gf (pm_at B h a) 10 33) (fun v => PW B X 143 68 lv (v :: st) h Q) := PW_getf rfl rfl
theorem u_143_68 : PW B X 143 68 [v0, v1, v2, some (.int x), v4] (st) h Q ↔ PW B X 143 69 [v0, v1, v2, some (.int x), v4] (.int x :: st) h Q := PW_step rfl rfl rfl rfl
theorem u_143_69 : PW B X 143 69 [v0, v1, some (.int x), v3, v4] (st) h Q ↔ PW B X 143 70 [v0, v1, some (.int x), v3, v4] (.int x :: st) h Q := PW_step rfl rfl rfl rfl
theorem u_143_70 : PW B X 143 70 lv (.int y :: .int x :: .ref a :: st) h Q ↔ pm_O (pm_sti 0 (pm_at B h a) x y) (fun e => PW B X 143 71 lv (st) (pm_set B h a e) Q) := PW_iast rfl
theorem u_143_71 : PW B X 143 71 [v0, v1, some (.int x), v3, v4] (st) h Q ↔ PW B X 143 74 [v0, pm_c v1, some (.int (x + 1)), v3, v4] (st) h Q := PW_step rfl rfl rfl rfl
theorem u_143_74 : PW B X 143 74 lv (st) h Q ↔ PW B X 143 12 lv (st) h Q := PW_step rfl rfl rfl rfl
theorem u_143_77 : PW B X 143 77 [some (.ref a), v1, v2, v3, v4] (st) h Q ↔ PW B X 143 78 [some (.ref a), v1, v2, v3, v4] (.ref a :: st) h Q := PW_step rfl rfl rfl rfl
theorem u_143_77n : PW B X 143 77 [some .null, v1, v2, v3, v4] (st) h Q ↔ PW B X 143 78 [some .null, v1, v2, v3, v4] (.null :: st) h Q := PW_step rfl rfl rfl rfl
theorem u_143_78 : PW B X 143 78 lv (.ref a :: st) h Q ↔ pm_O (pm_gf (pm_at B h a) 10 33) (fun v => PW B X 143 81 lv (v :: st) h Q) := PW_getf rfl rfl
theorem u_143_81 : PW B X 143 81 [v0, some (.int x), v2, v3, v4] (st) h Q ↔ PW B X 143 82 [v0, some (.int x), v2, v3, v4] (.int x :: st) h Q := PW_step rfl rfl rfl rfl
theorem u_143_82 : PW B X 143 82 lv (.int x :: .ref a :: st) h Q ↔ pm_O (pm_ldi 0 (pm_at B h a) x) (fun v => PW B X 143 83 lv (v :: st) h Q) := PW_iald rfl rfl
theorem u_143_83 : PW B X 143 83 lv ([.int x]) h Q ↔ Q (some (.int x)) h := PW_ret rfl rfl
-- 144 Ref_isBefore
theorem u_144_0 : PW B X 144 0 [some (.ref a), v1, v2, v3] (st) h Q ↔ PW B X 144 1 [some (.ref a), v1, v2, v3] (.ref a :: st) h Q := PW_step rfl rfl rfl rfl
theorem u_144_0n : PW B X 144 0 [some .null, v1, v2, v3] (st) h Q ↔ PW B X 144 1 [some .null, v1, v2, v3] (.null :: st) h Q := PW_step rfl rfl rfl rfl
theorem u_144_1 : PW B X 144 1 [v0, some (.int x), v2, v3] (st) h Q ↔ PW B X 144 2 [v0, some (.int x), v2, v3] (.int x :: st) h Q := PW_step rfl rfl rfl rfl
theorem u_144_2 : PW B X 144 2 lv (.int q0 :: .ref a :: st) h Q ↔ (pm_w st ≤ 8 ∧ pm_io B h a 10 = true ∧ PW B X 137 0 [some (.ref a), some (.int q0), none, none, none, none] [] h (fun r h' => PW B X 144 5 lv (r.toList ++ st) h' Q)) := PW_cv (y := 137) (as := [.int q0]) (rest := st) rfl rfl rfl rfl rfl ⟨Nat.le_of_ble_eq_true rfl, Nat.le_of_ble_eq_true rfl, Nat.le_of_ble_eq_true rfl⟩
theorem u_144_5 : PW B X 144 5 [some (.ref a), v1, v2, v3] (st) h Q ↔ PW B X 144 6 [some (.ref a), v1, v2, v3] (.ref a :: st) h Q := PW_step rfl rfl rfl rfl
theorem u_144_5n : PW B X 144 5 [some .null, v1, v2, v3] (st) h Q ↔ PW B X 144 6 [some .null, v1, v2, v3] (.null :: st) h Q := PW_step rfl rfl rfl rfl
theorem u_144_6 : PW B X 144 6 [v0, v1, some (.int x), v3] (st) h Q ↔ PW B X 144 7 [v0, v1, some (.int x), v3] (.int x :: st) h Q := PW_step rfl rfl rfl rfl
theorem u_144_7 : PW B X 144 7 lv (.int q0 :: .ref a :: st) h Q ↔ (pm_w st ≤ 8 ∧ pm_io B h a 10 = true ∧ PW B X 137 0 [some (.ref a), some (.int q0), none, none, none, none] [] h (fun r h' => PW B X 144 10 lv (r.toList ++ st) h' Q)) := PW_cv (y := 137) (as := [.int q0]) (rest := st) rfl rfl rfl rfl rfl ⟨Nat.le_of_ble_eq_true rfl, Nat.le_of_ble_eq_true rfl, Nat.le_of_ble_eq_true rfl⟩
theorem u_144_10 : PW B X 144 10 lv (.long w :: .long z :: st) h Q ↔ PW B X 144 11 lv (.int (lg_cmp z w) :: st) h Q := PW_step rfl rfl rfl rfl
theorem u_144_11 : PW B X 144 11 lv (.int x :: st) h Q ↔ (if x = 0 then PW B X 144 34 lv (st) h Q else PW B X 144 14 lv (st) h Q) := PW_if rfl rfl pm_c_eq
theorem u_144_14 : PW B X 144 14 [some (.ref a), v1, v2, v3] (st) h Q ↔ PW B X 144 15 [some (.ref a), v1, v2, v3] (.ref a :: st) h Q := PW_step rfl rfl rfl rfl
theorem u_144_14n : PW B X 144 14 [some .null, v1, v2, v3] (st) h Q ↔ PW B X 144 15 [some .null, v1, v2, v3] (.null :: st) h Q := PW_step rfl rfl rfl rfl
theorem u_144_15 : PW B X 144 15 [v0, some (.int x), v2, v3] (st) h Q ↔ PW B X 144 16 [v0, some (.int x), v2, v3] (.int x :: st) h Q := PW_step rfl rfl rfl rfl
theorem u_144_16 : PW B X 144 16 lv (.int q0 :: .ref a :: st) h Q ↔ (pm_w st ≤ 8 ∧ pm_io B h a 10 = true ∧ PW B X 137 0 [some (.ref a), some (.int q0), none, none, none, none] [] h (fun r h' => PW B X 144 19 lv (r.toList ++ st) h' Q)) := PW_cv (y := 137) (as := [.int q0]) (rest := st) rfl rfl rfl rfl rfl ⟨Nat.le_of_ble_eq_true rfl, Nat.le_of_ble_eq_true rfl, Nat.le_of_ble_eq_true rfl⟩
theorem u_144_19 : PW B X 144 19 [some (.ref a), v1, v2, v3] (st) h Q ↔ PW B X 144 20 [some (.ref a), v1, v2, v3] (.ref a :: st) h Q := PW_step rfl rfl rfl rfl
theorem u_144_19n : PW B X 144 19 [some .null, v1, v2, v3] (st) h Q ↔ PW B X 144 20 [some .null, v1, v2, v3] (.null :: st) h Q := PW_step rfl rfl rfl rfl
theorem u_144_20 : PW B X 144 20 [v0, v1, some (.int x), v3] (st) h Q ↔ PW B X 144 21 [v0, v1, some (.int x), v3] (.int x :: st) h Q := PW_step rfl rfl rfl rfl
theorem u_144_21 : PW B X 144 21 lv (.int q0 :: .ref a :: st) h Q ↔ (pm_w st ≤ 8 ∧ pm_io B h a 10 = true ∧ PW B X 137 0 [some (.ref a), some (.int q0), none, none, none, none] [] h (fun r h' => PW B X 144 24 lv (r.toList ++ st) h' Q)) := PW_cv (y := 137) (as := [.int q0]) (rest := st) rfl rfl rfl rfl rfl ⟨Nat.le_of_ble_eq_true rfl, Nat.le_of_ble_eq_true rfl, Nat.le_of_ble_eq_true rfl⟩
theorem u_144_24 : PW B X 144 24 lv (.long w :: .long z :: st) h Q ↔ PW B X 144 25 lv (.int (lg_cmp z w) :: st) h Q := PW_step rfl rfl rfl rfl
theorem u_144_25 : PW B X 144 25 lv (.int x :: st) h Q ↔ (if x ≤ 0 then PW B X 144 32 lv (st) h Q else PW B X 144 28 lv (st) h Q) := PW_if rfl rfl pm_c_le
theorem u_144_28 : PW B X 144 28 lv (st) h Q ↔ PW B X 144 29 lv (.int 1 :: st) h Q := PW_step rfl rfl rfl rfl
theorem u_144_29 : PW B X 144 29 lv (st) h Q ↔ PW B X 144 33 lv (st) h Q := PW_step rfl rfl rfl rfl
theorem u_144_32 : PW B X 144 32 lv (st) h Q ↔ PW B X 144 33 lv (.int 0 :: st) h Q := PW_step rfl rfl rfl rfl
theorem u_144_33 (hx : narrow .boolean (.int x) = .int x) : PW B X 144 33 lv ([.int x]) h Q ↔ Q (some (.int x)) h := PW_bret rfl rfl (by simp) hx
theorem u_144_33_0 : PW B X 144 33 lv ([.int 0]) h Q ↔ Q (some (.int 0)) h := u_144_33 rfl
theorem u_144_33_1 : PW B X 144 33 lv ([.int 1]) h Q ↔ Q (some (.int 1)) h := u_144_33 rfl
theorem u_144_34 : PW B X 144 34 [some (.ref a), v1, v2, v3] (st) h Q ↔ PW B X 144 35 [some (.ref a), v1, v2, v3] (.ref a :: st) h Q := PW_step rfl rfl rfl rfl
theorem u_144_34n : PW B X 144 34 [some .null, v1, v2, v3] (st) h Q ↔ PW B X 144 35 [some .null, v1, v2, v3] (.null :: st) h Q := PW_step rfl rfl rfl rfl
theorem u_144_35 : PW B X 144 35 [v0, some (.int x), v2, v3] (st) h Q ↔ PW B X 144 36 [v0, some (.int x), v2, v3] (.int x :: st) h Q := PW_step rfl rfl rfl rfl
theorem u_144_36 : PW B X 144 36 lv (st) h Q ↔ PW B X 144 37 lv (.int 2 :: st) h Q := PW_step rfl rfl rfl rfl
theorem u_144_37 : PW B X 144 37 lv (.int q1 :: .int q0 :: .ref a :: st) h Q ↔ (pm_w st ≤ 8 ∧ pm_io B h a 10 = true ∧ PW B X 108 0 [some (.ref a), some (.int q0), some (.int q1), none] [] h (fun r h' => PW B X 144 40 lv (r.toList ++ st) h' Q)) := PW_cv (y := 108) (as := [.int q0, .int q1]) (rest := st) rfl rfl rfl rfl rfl ⟨Nat.le_of_ble_eq_true rfl, Nat.le_of_ble_eq_true rfl, Nat.le_of_ble_eq_true rfl⟩
theorem u_144_40 : PW B X 144 40 [some (.ref a), v1, v2, v3] (st) h Q ↔ PW B X 144 41 [some (.ref a), v1, v2, v3] (.ref a :: st) h Q := PW_step rfl rfl rfl rfl
theorem u_144_40n : PW B X 144 40 [some .null, v1, v2, v3] (st) h Q ↔ PW B X 144 41 [some .null, v1, v2, v3] (.null :: st) h Q := PW_step rfl rfl rfl rfl
theorem u_144_41 : PW B X 144 41 lv (st) h Q ↔ PW B X 144 42 lv (.int 1 :: st) h Q := PW_step rfl rfl rfl rfl
theorem u_144_42 : PW B X 144 42 lv (st) h Q ↔ PW B X 144 44 lv (.int 7 :: st) h Q := PW_step rfl rfl rfl rfl
theorem u_144_44 : PW B X 144 44 lv (.int q1 :: .int q0 :: .ref a :: st) h Q ↔ (pm_w st ≤ 8 ∧ pm_io B h a 10 = true ∧ PW B X 118 0 [some (.ref a), some (.int q0), some (.int q1), none] [] h (fun r h' => PW B X 144 47 lv (r.toList ++ st) h' Q)) := PW_cv (y := 118) (as := [.int q0, .int q1]) (rest := st) rfl rfl rfl rfl rfl ⟨Nat.le_of_ble_eq_true rfl, Nat.le_of_ble_eq_true rfl, Nat.le_of_ble_eq_true rfl⟩
theorem u_144_47 : PW B X 144 47 [some (.ref a), v1, v2, v3] (st) h Q ↔ PW B X 144 48 [some (.ref a), v1, v2, v3] (.ref a :: st) h Q := PW_step rfl rfl rfl rfl
theorem u_144_47n : PW B X 144 47 [some .null, v1, v2, v3] (st) h Q ↔ PW B X 144 48 [some .null, v1, v2, v3] (.null :: st) h Q := PW_step rfl rfl rfl rfl
theorem u_144_48 : PW B X 144 48 [v0, v1, some (.int x), v3] (st) h Q ↔ PW B X 144 49 [v0, v1, some (.int x), v3] (.int x :: st) h Q := PW_step rfl rfl rfl rfl
theorem u_144_49 : PW B X 144 49 lv (st) h Q ↔ PW B X 144 50 lv (.int 2 :: st) h Q := PW_step rfl rfl rfl rfl
theorem u_144_50 : PW B X 144 50 lv (.int q1 :: .int q0 :: .ref a :: st) h Q ↔ (pm_w st ≤ 8 ∧ pm_io B h a 10 = true ∧ PW B X 108 0 [some (.ref a), some (.int q0), some (.int q1), none] [] h (fun r h' => PW B X 144 53 lv (r.toList ++ st) h' Q)) := PW_cv (y := 108) (as := [.int q0, .int q1]) (rest := st) rfl rfl rfl rfl rfl ⟨Nat.le_of_ble_eq_true rfl, Nat.le_of_ble_eq_true rfl, Nat.le_of_ble_eq_true rfl⟩
theorem u_144_53 : PW B X 144 53 [some (.ref a), v1, v2, v3] (st) h Q ↔ PW B X 144 54 [some (.ref a), v1, v2, v3] (.ref a :: st) h Q := PW_step rfl rfl rfl rfl
theorem u_144_53n : PW B X 144 53 [some .null, v1, v2, v3] (st) h Q ↔ PW B X 144 54 [some .null, v1, v2, v3] (.null :: st) h Q := PW_step rfl rfl rfl rfl
theorem u_144_54 : PW B X 144 54 lv (st) h Q ↔ PW B X 144 56 lv (.int 7 :: st) h Q := PW_step rfl rfl rfl rfl
theorem u_144_56 : PW B X 144 56 lv (st) h Q ↔ PW B X 144 57 lv (.int 1 :: st) h Q := PW_step rfl rfl rfl rfl
theorem u_144_57 : PW B X 144 57 lv (.int q1 :: .int q0 :: .ref a :: st) h Q ↔ (pm_w st ≤ 8 ∧ pm_io B h a 10 = true ∧ PW B X 121 0 [some (.ref a), some (.int q0), some (.int q1)] [] h (fun r h' => PW B X 144 60 lv (r.toList ++ st) h' Q)) := PW_cv (y := 121) (as := [.int q0, .int q1]) (rest := st) rfl rfl rfl rfl rfl ⟨Nat.le_of_ble_eq_true rfl, Nat.le_of_ble_eq_true rfl, Nat.le_of_ble_eq_true rfl⟩
theorem u_144_60 : PW B X 144 60 [v0, v1, v2, v3] (.int x :: st) h Q ↔ PW B X 144 61 [v0, v1, pm_c v2, some (.int x)] (st) h Q := PW_step rfl rfl rfl rfl
theorem u_144_61 : PW B X 144 61 [v0, v1, v2, some (.int x)] (st) h Q ↔ PW B X 144 62 [v0, v1, v2, some (.int x)] (.int x :: st) h Q := PW_step rfl rfl rfl rfl
theorem u_144_62 : PW B X 144 62 lv (.int x :: st) h Q ↔ (if 0 < x then PW B X 144 74 lv (st) h Q else PW B X 144 65 lv (st) h Q) := PW_if rfl rfl pm_c_gt
theorem u_144_65 : PW B X 144 65 [v0, v1, v2, some (.int x)] (st) h Q ↔ PW B X 144 66 [v0, v1, v2, some (.int x)] (.int x :: st) h Q := PW_step rfl rfl rfl rfl
theorem u_144_66 : PW B X 144 66 lv (.int x :: st) h Q ↔ (if ¬ x = 0 then PW B X 144 78 lv (st) h Q else PW B X 144 69 lv (st) h Q) := PW_if rfl rfl pm_c_ne
theorem u_144_69 : PW B X 144 69 [v0, some (.int x), v2, v3] (st) h Q ↔ PW B X 144 70 [v0, some (.int x), v2, v3] (.int x :: st) h Q := PW_step rfl rfl rfl rfl
theorem u_144_70 : PW B X 144 70 [v0, v1, some (.int x), v3] (st) h Q ↔ PW B X 144 71 [v0, v1, some (.int x), v3] (.int x :: st) h Q := PW_step rfl rfl rfl rfl
theorem u_144_71 : PW B X 144 71 lv (.int y :: .int x :: st) h Q ↔ (if y ≤ x then PW B X 144 78 lv (st) h Q else PW B X 144 74 lv (st) h Q) := PW_icmp rfl rfl pm_c_ge
theorem u_144_74 : PW B X 144 74 lv (st) h Q ↔ PW B X 144 75 lv (.int 1 :: st) h Q := PW_step rfl rfl rfl rfl
theorem u_144_75 : PW B X 144 75 lv (st) h Q ↔ PW B X 144 79 lv (st) h Q := PW_step rfl rfl rfl rfl
theorem u_144_78 : PW B X 144 78 lv (st) h Q ↔ PW B X 144 79 lv (.int 0 :: st) h Q := PW_step rfl rfl rfl rfl
theorem u_144_79 (hx : narrow .boolean (.int x) = .int x) : PW B X 144 79 lv ([.int x]) h Q ↔ Q (some (.int x)) h := PW_bret rfl rfl (by simp) hx
theorem u_144_79_0 : PW B X 144 79 lv ([.int 0]) h Q ↔ Q (some (.int 0)) h := u_144_79 rfl
theorem u_144_79_1 : PW B X 144 79 lv ([.int 1]) h Q ↔ Q (some (.int 1)) h := u_144_79 rfl
-- 145 Ref_count
theorem u_145_0 : PW B X 145 0 lv (st) h Q ↔ PW B X 145 1 lv (.int 0 :: st) h Q := PW_step rfl rfl rfl rfl
theorem u_145_1 : PW B X 145 1 [v0, v1, v2, v3, v4] (.int x :: st) h Q ↔ PW B X 145 2 [v0, pm_c v1, some (.int x), v3, v4] (st) h Q := PW_step rfl rfl rfl rfl
theorem u_145_2 : PW B X 145 2 lv (st) h Q ↔ PW B X 145 3 lv (.int 0 :: st) h Q := PW_step rfl rfl rfl rfl
theorem u_145_3 : PW B X 145 3 [v0, v1, v2, v3, v4] (.int x :: st) h Q ↔ PW B X 145 4 [v0, v1, pm_c v2, some (.int x), v4] (st) h Q := PW_step rfl rfl rfl rfl
theorem u_145_4 : PW B X 145 4 [v0, v1, v2, some (.int x), v4] (st) h Q ↔ PW B X 145 5 [v0, v1, v2, some (.int x), v4] (.int x :: st) h Q := PW_step rfl rfl rfl rfl
theorem u_145_5 : PW B X 145 5 lv (st) h Q ↔ PW B X 145 7 lv (.int 20 :: st) h Q := PW_step rfl rfl rfl rfl
theorem u_145_7 : PW B X 145 7 lv (.int y :: .int x :: st) h Q ↔ (if y ≤ x then PW B X 145 33 lv (st) h Q else PW B X 145 10 lv (st) h Q) := PW_icmp rfl rfl pm_c_ge
theorem u_145_10 : PW B X 145 10 [v0, v1, some (.int x), v3, v4] (st) h Q ↔ PW B X 145 11 [v0, v1, some (.int x), v3, v4] (.int x :: st) h Q := PW_step rfl rfl rfl rfl
theorem u_145_11 : PW B X 145 11 [some (.ref a), v1, v2, v3, v4] (st) h Q ↔ PW B X 145 12 [some (.ref a), v1, v2, v3, v4] (.ref a :: st) h Q := PW_step rfl rfl rfl rfl
theorem u_145_11n : PW B X 145 11 [some .null, v1, v2, v3, v4] (st) h Q ↔ PW B X 145 12 [some .null, v1, v2, v3, v4] (.null :: st) h Q := PW_step rfl rfl rfl rfl
theorem u_145_12 : PW B X 145 12 lv (.ref a :: st) h Q ↔ pm_O (pm_gf (pm_at B h a) 10 3) (fun v => PW B X 145 15 lv (v :: st) h Q) := PW_getf rfl rfl
theorem u_145_15 : PW B X 145 15 [v0, v1, v2, some (.int x), v4] (st) h Q ↔ PW B X 145 16 [v0, v1, v2, some (.int x), v4] (.int x :: st) h Q := PW_step rfl rfl rfl rfl
theorem u_145_16 : PW B X 145 16 lv (.int x :: .ref a :: st) h Q ↔ pm_O (pm_ldi 3 (pm_at B h a) x) (fun v => PW B X 145 17 lv (v :: st) h Q) := PW_bald rfl
theorem u_145_17 : PW B X 145 17 lv (.int x :: st) h Q ↔ (if x = 0 then PW B X 145 24 lv (st) h Q else PW B X 145 20 lv (st) h Q) := PW_if rfl rfl pm_c_eq
theorem u_145_20 : PW B X 145 20 lv (st) h Q ↔ PW B X 145 21 lv (.int 1 :: st) h Q := PW_step rfl rfl rfl rfl
theorem u_145_21 : PW B X 145 21 lv (st) h Q ↔ PW B X 145 25 lv (st) h Q := PW_step rfl rfl rfl rfl
theorem u_145_24 : PW B X 145 24 lv (st) h Q ↔ PW B X 145 25 lv (.int 0 :: st) h Q := PW_step rfl rfl rfl rfl
theorem u_145_25 : PW B X 145 25 lv (.int y :: .int x :: st) h Q ↔ PW B X 145 26 lv (.int (x + y) :: st) h Q := PW_step rfl rfl rfl rfl
theorem u_145_26 : PW B X 145 26 [v0, v1, v2, v3, v4] (.int x :: st) h Q ↔ PW B X 145 27 [v0, pm_c v1, some (.int x), v3, v4] (st) h Q := PW_step rfl rfl rfl rfl
theorem u_145_27 : PW B X 145 27 [v0, v1, v2, some (.int x), v4] (st) h Q ↔ PW B X 145 30 [v0, v1, pm_c v2, some (.int (x + 1)), v4] (st) h Q := PW_step rfl rfl rfl rfl
theorem u_145_30 : PW B X 145 30 lv (st) h Q ↔ PW B X 145 4 lv (st) h Q := PW_step rfl rfl rfl rfl
theorem u_145_33 : PW B X 145 33 lv (st) h Q ↔ PW B X 145 34 lv (.int 0 :: st) h Q := PW_step rfl rfl rfl rfl
theorem u_145_34 : PW B X 145 34 [v0, v1, v2, v3, v4] (.int x :: st) h Q ↔ PW B X 145 35 [v0, v1, pm_c v2, some (.int x), v4] (st) h Q := PW_step rfl rfl rfl rfl
theorem u_145_35 : PW B X 145 35 lv (st) h Q ↔ PW B X 145 36 lv (.int 0 :: st) h Q := PW_step rfl rfl rfl rfl
theorem u_145_36 : PW B X 145 36 [v0, v1, v2, v3, v4] (.int x :: st) h Q ↔ PW B X 145 38 [v0, v1, v2, pm_c v3, some (.int x)] (st) h Q := PW_step rfl rfl rfl rfl
theorem u_145_38 : PW B X 145 38 [v0, v1, v2, v3, some (.int x)] (st) h Q ↔ PW B X 145 40 [v0, v1, v2, v3, some (.int x)] (.int x :: st) h Q := PW_step rfl rfl rfl rfl
theorem u_145_40 : PW B X 145 40 [some (.ref a), v1, v2, v3, v4] (st) h Q ↔ PW B X 145 41 [some (.ref a), v1, v2, v3, v4] (.ref a :: st) h Q := PW_step rfl rfl rfl rfl
theorem u_145_40n : PW B X 145 40 [some .null, v1, v2, v3, v4] (st) h Q ↔ PW B X 145 41 [some .null, v1, v2, v3, v4] (.null :: st) h Q := PW_step rfl rfl rfl rfl
theorem u_145_41 : PW B X 145 41 lv (.ref a :: st) h Q ↔ pm_O (pm_gf (pm_at B h a) 10 10) (fun v => PW B X 145 44 lv (v :: st) h Q) := PW_getf rfl rfl
theorem u_145_44 : PW B X 145 44 lv (.int y :: .int x :: st) h Q ↔ (if y ≤ x then PW B X 145 63 lv (st) h Q else PW B X 145 47 lv (st) h Q) := PW_icmp rfl rfl pm_c_ge
theorem u_145_47 : PW B X 145 47 [v0, v1, v2, some (.int x), v4] (st) h Q ↔ PW B X 145 48 [v0, v1, v2, some (.int x), v4] (.int x :: st) h Q := PW_step rfl rfl rfl rfl
theorem u_145_48 : PW B X 145 48 [some (.ref a), v1, v2, v3, v4] (st) h Q ↔ PW B X 145 49 [some (.ref a), v1, v2, v3, v4] (.ref a :: st) h Q := PW_step rfl rfl rfl rfl
theorem u_145_48n : PW B X 145 48 [some .null, v1, v2, v3, v4] (st) h Q ↔ PW B X 145 49 [some .null, v1, v2, v3, v4] (.null :: st) h Q := PW_step rfl rfl rfl rfl
theorem u_145_49 : PW B X 145 49 lv (.ref a :: st) h Q ↔ pm_O (pm_gf (pm_at B h a) 10 11) (fun v => PW B X 145 52 lv (v :: st) h Q) := PW_getf rfl rfl
theorem u_145_52 : PW B X 145 52 [v0, v1, v2, v3, some (.int x)] (st) h Q ↔ PW B X 145 54 [v0, v1, v2, v3, some (.int x)] (.int x :: st) h Q := PW_step rfl rfl rfl rfl
theorem u_145_54 : PW B X 145 54 lv (.int x :: .ref a :: st) h Q ↔ pm_O (pm_ldi 0 (pm_at B h a) x) (fun v => PW B X 145 55 lv (v :: st) h Q) := PW_iald rfl rfl
theorem u_145_55 : PW B X 145 55 lv (.int y :: .int x :: st) h Q ↔ PW B X 145 56 lv (.int (x + y) :: st) h Q := PW_step rfl rfl rfl rfl
theorem u_145_56 : PW B X 145 56 [v0, v1, v2, v3, v4] (.int x :: st) h Q ↔ PW B X 145 57 [v0, v1, pm_c v2, some (.int x), v4] (st) h Q := PW_step rfl rfl rfl rfl
theorem u_145_57 : PW B X 145 57 [v0, v1, v2, v3, some (.int x)] (st) h Q ↔ PW B X 145 60 [v0, v1, v2, pm_c v3, some (.int (x + 1))] (st) h Q := PW_step rfl rfl rfl rfl
theorem u_145_60 : PW B X 145 60 lv (st) h Q ↔ PW B X 145 38 lv (st) h Q := PW_step rfl rfl rfl rfl
theorem u_145_63 : PW B X 145 63 [v0, some (.int x), v2, v3, v4] (st) h Q ↔ PW B X 145 64 [v0, some (.int x), v2, v3, v4] (.int x :: st) h Q := PW_step rfl rfl rfl rfl
theorem u_145_64_0 : PW B X 145 64 lv (.int 0 :: st) h Q ↔ PW B X 145 108 lv (st) h Q := PW_step rfl rfl rfl rfl
theorem u_145_64_1 : PW B X 145 64 lv (.int 1 :: st) h Q ↔ PW B X 145 113 lv (st) h Q := PW_step rfl rfl rfl rfl
theorem u_145_64_2 : PW B X 145 64 lv (.int 2 :: st) h Q ↔ PW B X 145 118 lv (st) h Q := PW_step rfl rfl rfl rfl
theorem u_145_64_3 : PW B X 145 64 lv (.int 3 :: st) h Q ↔ PW B X 145 120 lv (st) h Q := PW_step rfl rfl rfl rfl
theorem u_145_64_4 : PW B X 145 64 lv (.int 4 :: st) h Q ↔ PW B X 145 125 lv (st) h Q := PW_step rfl rfl rfl rfl
theorem u_145_64_5 : PW B X 145 64 lv (.int 5 :: st) h Q ↔ PW B X 145 130 lv (st) h Q := PW_step rfl rfl rfl rfl
theorem u_145_64_6 : PW B X 145 64 lv (.int 6 :: st) h Q ↔ PW B X 145 132 lv (st) h Q := PW_step rfl rfl rfl rfl
theorem u_145_64_d (hx : x.toInt < 0 ∨ 6 < x.toInt) : PW B X 145 64 lv (.int x :: st) h Q ↔ PW B X 145 137 lv (st) h Q := PW_tout rfl rfl hx
theorem u_145_108 : PW B X 145 108 [some (.ref a), v1, v2, v3, v4] (st) h Q ↔ PW B X 145 109 [some (.ref a), v1, v2, v3, v4] (.ref a :: st) h Q := PW_step rfl rfl rfl rfl
theorem u_145_108n : PW B X 145 108 [some .null, v1, v2, v3, v4] (st) h Q ↔ PW B X 145 109 [some .null, v1, v2, v3, v4] (.null :: st) h Q := PW_step rfl rfl rfl rfl
theorem u_145_109 : PW B X 145 109 lv (.ref a :: st) h Q ↔ pm_O (pm_gf (pm_at B h a) 10 0) (fun v => PW B X 145 112 lv (v :: st) h Q) := PW_getf rfl rfl
theorem u_145_112 : PW B X 145 112 lv ([.int x]) h Q ↔ Q (some (.int x)) h := PW_ret rfl rfl
theorem u_145_113 : PW B X 145 113 [some (.ref a), v1, v2, v3, v4] (st) h Q ↔ PW B X 145 114 [some (.ref a), v1, v2, v3, v4] (.ref a :: st) h Q := PW_step rfl rfl rfl rfl
theorem u_145_113n : PW B X 145 113 [some .null, v1, v2, v3, v4] (st) h Q ↔ PW B X 145 114 [some .null, v1, v2, v3, v4] (.null :: st) h Q := PW_step rfl rfl rfl rfl
theorem u_145_114 : PW B X 145 114 lv (.ref a :: st) h Q ↔ pm_O (pm_gf (pm_at B h a) 10 10) (fun v => PW B X 145 117 lv (v :: st) h Q) := PW_getf rfl rfl
theorem u_145_117 : PW B X 145 117 lv ([.int x]) h Q ↔ Q (some (.int x)) h := PW_ret rfl rfl
theorem u_145_118 : PW B X 145 118 [v0, v1, v2, some (.int x), v4] (st) h Q ↔ PW B X 145 119 [v0, v1, v2, some (.int x), v4] (.int x :: st) h Q := PW_step rfl rfl rfl rfl
theorem u_145_119 : PW B X 145 119 lv ([.int x]) h Q ↔ Q (some (.int x)) h := PW_ret rfl rfl
theorem u_145_120 : PW B X 145 120 [some (.ref a), v1, v2, v3, v4] (st) h Q ↔ PW B X 145 121 [some (.ref a), v1, v2, v3, v4] (.ref a :: st) h Q := PW_step rfl rfl rfl rfl
theorem u_145_120n : PW B X 145 120 [some .null, v1, v2, v3, v4] (st) h Q ↔ PW B X 145 121 [some .null, v1, v2, v3, v4] (.null :: st) h Q := PW_step rfl rfl rfl rfl
theorem u_145_121 : PW B X 145 121 lv (.ref a :: st) h Q ↔ pm_O (pm_gf (pm_at B h a) 10 19) (fun v => PW B X 145 124 lv (v :: st) h Q) := PW_getf rfl rfl
theorem u_145_124 : PW B X 145 124 lv ([.int x]) h Q ↔ Q (some (.int x)) h := PW_ret rfl rfl
theorem u_145_125 : PW B X 145 125 [some (.ref a), v1, v2, v3, v4] (st) h Q ↔ PW B X 145 126 [some (.ref a), v1, v2, v3, v4] (.ref a :: st) h Q := PW_step rfl rfl rfl rfl
theorem u_145_125n : PW B X 145 125 [some .null, v1, v2, v3, v4] (st) h Q ↔ PW B X 145 126 [some .null, v1, v2, v3, v4] (.null :: st) h Q := PW_step rfl rfl rfl rfl
theorem u_145_126 : PW B X 145 126 lv (.ref a :: st) h Q ↔ pm_O (pm_gf (pm_at B h a) 10 21) (fun v => PW B X 145 129 lv (v :: st) h Q) := PW_getf rfl rfl
theorem u_145_129 : PW B X 145 129 lv ([.int x]) h Q ↔ Q (some (.int x)) h := PW_ret rfl rfl
theorem u_145_130 : PW B X 145 130 [v0, v1, some (.int x), v3, v4] (st) h Q ↔ PW B X 145 131 [v0, v1, some (.int x), v3, v4] (.int x :: st) h Q := PW_step rfl rfl rfl rfl
theorem u_145_131 : PW B X 145 131 lv ([.int x]) h Q ↔ Q (some (.int x)) h := PW_ret rfl rfl
theorem u_145_132 : PW B X 145 132 [some (.ref a), v1, v2, v3, v4] (st) h Q ↔ PW B X 145 133 [some (.ref a), v1, v2, v3, v4] (.ref a :: st) h Q := PW_step rfl rfl rfl rfl
theorem u_145_132n : PW B X 145 132 [some .null, v1, v2, v3, v4] (st) h Q ↔ PW B X 145 133 [some .null, v1, v2, v3, v4] (.null :: st) h Q := PW_step rfl rfl rfl rfl
theorem u_145_133 : PW B X 145 133 lv (.ref a :: st) h Q ↔ pm_O (pm_gf (pm_at B h a) 10 7) (fun v => PW B X 145 136 lv (v :: st) h Q) := PW_getf rfl rfl
theorem u_145_136 : PW B X 145 136 lv ([.int x]) h Q ↔ Q (some (.int x)) h := PW_ret rfl rfl
theorem u_145_137 : PW B X 145 137 lv (st) h Q ↔ PW B X 145 138 lv (.int (-1) :: st) h Q := PW_step rfl rfl rfl rfl
theorem u_145_138 : PW B X 145 138 lv ([.int x]) h Q ↔ Q (some (.int x)) h := PW_ret rfl rfl
end

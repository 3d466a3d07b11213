/-! RULES OF 45.u-refa, an instruction each, written by ugen.py: do not edit. -/
section
variable {B : Nat} {X : pm_X} {lv : pm_L} {st : List Value} {h : pm_H} {Q : Option Value → pm_H → Prop} {v : Value} {x y : Int32} {z w : Int64} {a b : Nat}
variable {v0 v1 v2 v3 v4 v5 v6 v7 v8 v9 v10 v11 v12 v13 v14 v15 : Option Value} {q0 q1 q2 q3 q4 q5 : Int32} {p0 p1 p2 p3 p4 p5 : Int64} {r0 r1 r2 r3 r4 r5 : Nat}
-- 92 Ref_init
theorem u_92_0 : PW B X 92 0 [some (.ref a), v1, v2, v3, v4] (st) h Q ↔ PW B X 92 1 [some (.ref a), v1, v2, v3, v4] (.ref a :: st) h Q := PW_step rfl rfl rfl rfl
theorem u_92_0n : PW B X 92 0 [some .null, v1, v2, v3, v4] (st) h Q ↔ PW B X 92 1 [some .null, v1, v2, v3, v4] (.null :: st) h Q := PW_step rfl rfl rfl rfl
theorem u_92_1 : PW B X 92 1 lv (.ref a :: st) h Q ↔ (pm_w st ≤ 8 ∧ PW B X 92 4 lv (st) h Q) := PW_obj rfl rfl rfl
theorem u_92_4 : PW B X 92 4 [some (.ref a), v1, v2, v3, v4] (st) h Q ↔ PW B X 92 5 [some (.ref a), v1, v2, v3, v4] (.ref a :: st) h Q := PW_step rfl rfl rfl rfl
theorem u_92_4n : PW B X 92 4 [some .null, v1, v2, v3, v4] (st) h Q ↔ PW B X 92 5 [some .null, v1, v2, v3, v4] (.null :: st) h Q := PW_step rfl rfl rfl rfl
theorem u_92_5 : PW B X 92 5 lv (st) h Q ↔ PW B X 92 7 lv (.int 10 :: st) h Q := PW_step rfl rfl rfl rfl
theorem u_92_7 : PW B X 92 7 lv (.int 10 :: st) h Q ↔ PW B X 92 9 lv (.ref (B + h.length) :: st) (h ++ [.inl (0, 10, .inl (fun _ => 0))]) Q := PW_step rfl rfl rfl rfl
theorem u_92_9 : PW B X 92 9 lv (v :: .ref a :: st) h Q ↔ pm_O (pm_pf (pm_at B h a) 10 1 v) (fun e => PW B X 92 12 lv (st) (pm_set B h a e) Q) := PW_putf rfl rfl
theorem u_92_12 : PW B X 92 12 [some (.ref a), v1, v2, v3, v4] (st) h Q ↔ PW B X 92 13 [some (.ref a), v1, v2, v3, v4] (.ref a :: st) h Q := PW_step rfl rfl rfl rfl
theorem u_92_12n : PW B X 92 12 [some .null, v1, v2, v3, v4] (st) h Q ↔ PW B X 92 13 [some .null, v1, v2, v3, v4] (.null :: st) h Q := PW_step rfl rfl rfl rfl
theorem u_92_13 : PW B X 92 13 lv (st) h Q ↔ PW B X 92 15 lv (.int 10 :: st) h Q := PW_step rfl rfl rfl rfl
theorem u_92_15 : PW B X 92 15 lv (.int 10 :: st) h Q ↔ PW B X 92 17 lv (.ref (B + h.length) :: st) (h ++ [.inl (0, 10, .inl (fun _ => 0))]) Q := PW_step rfl rfl rfl rfl
theorem u_92_17 : PW B X 92 17 lv (v :: .ref a :: st) h Q ↔ pm_O (pm_pf (pm_at B h a) 10 2 v) (fun e => PW B X 92 20 lv (st) (pm_set B h a e) Q) := PW_putf rfl rfl
theorem u_92_20 : PW B X 92 20 [some (.ref a), v1, v2, v3, v4] (st) h Q ↔ PW B X 92 21 [some (.ref a), v1, v2, v3, v4] (.ref a :: st) h Q := PW_step rfl rfl rfl rfl
theorem u_92_20n : PW B X 92 20 [some .null, v1, v2, v3, v4] (st) h Q ↔ PW B X 92 21 [some .null, v1, v2, v3, v4] (.null :: st) h Q := PW_step rfl rfl rfl rfl
theorem u_92_21 : PW B X 92 21 lv (st) h Q ↔ PW B X 92 23 lv (.int 20 :: st) h Q := PW_step rfl rfl rfl rfl
theorem u_92_23 : PW B X 92 23 lv (.int 20 :: st) h Q ↔ PW B X 92 25 lv (.ref (B + h.length) :: st) (h ++ [.inl (3, 20, .inl (fun _ => 0))]) Q := PW_step rfl rfl rfl rfl
theorem u_92_25 : PW B X 92 25 lv (v :: .ref a :: st) h Q ↔ pm_O (pm_pf (pm_at B h a) 10 3 v) (fun e => PW B X 92 28 lv (st) (pm_set B h a e) Q) := PW_putf rfl rfl
theorem u_92_28 : PW B X 92 28 [some (.ref a), v1, v2, v3, v4] (st) h Q ↔ PW B X 92 29 [some (.ref a), v1, v2, v3, v4] (.ref a :: st) h Q := PW_step rfl rfl rfl rfl
theorem u_92_28n : PW B X 92 28 [some .null, v1, v2, v3, v4] (st) h Q ↔ PW B X 92 29 [some .null, v1, v2, v3, v4] (.null :: st) h Q := PW_step rfl rfl rfl rfl
theorem u_92_29 : PW B X 92 29 lv (st) h Q ↔ PW B X 92 32 lv (.int 240 :: st) h Q := PW_step rfl rfl rfl rfl
theorem u_92_32 : PW B X 92 32 lv (.int 240 :: st) h Q ↔ PW B X 92 34 lv (.ref (B + h.length) :: st) (h ++ [.inl (0, 240, .inl (fun _ => 0))]) Q := PW_step rfl rfl rfl rfl
theorem u_92_34 : PW B X 92 34 lv (v :: .ref a :: st) h Q ↔ pm_O (pm_pf (pm_at B h a) 10 4 v) (fun e => PW B X 92 37 lv (st) (pm_set B h a e) Q) := PW_putf rfl rfl
theorem u_92_37 : PW B X 92 37 [some (.ref a), v1, v2, v3, v4] (st) h Q ↔ PW B X 92 38 [some (.ref a), v1, v2, v3, v4] (.ref a :: st) h Q := PW_step rfl rfl rfl rfl
theorem u_92_37n : PW B X 92 37 [some .null, v1, v2, v3, v4] (st) h Q ↔ PW B X 92 38 [some .null, v1, v2, v3, v4] (.null :: st) h Q := PW_step rfl rfl rfl rfl
theorem u_92_38 : PW B X 92 38 lv (st) h Q ↔ PW B X 92 41 lv (.int 240 :: st) h Q := PW_step rfl rfl rfl rfl
theorem u_92_41 : PW B X 92 41 lv (.int 240 :: st) h Q ↔ PW B X 92 43 lv (.ref (B + h.length) :: st) (h ++ [.inl (0, 240, .inl (fun _ => 0))]) Q := PW_step rfl rfl rfl rfl
theorem u_92_43 : PW B X 92 43 lv (v :: .ref a :: st) h Q ↔ pm_O (pm_pf (pm_at B h a) 10 5 v) (fun e => PW B X 92 46 lv (st) (pm_set B h a e) Q) := PW_putf rfl rfl
theorem u_92_46 : PW B X 92 46 [some (.ref a), v1, v2, v3, v4] (st) h Q ↔ PW B X 92 47 [some (.ref a), v1, v2, v3, v4] (.ref a :: st) h Q := PW_step rfl rfl rfl rfl
theorem u_92_46n : PW B X 92 46 [some .null, v1, v2, v3, v4] (st) h Q ↔ PW B X 92 47 [some .null, v1, v2, v3, v4] (.null :: st) h Q := PW_step rfl rfl rfl rfl
theorem u_92_47 : PW B X 92 47 lv (st) h Q ↔ PW B X 92 50 lv (.int 200 :: st) h Q := PW_step rfl rfl rfl rfl
theorem u_92_50 : PW B X 92 50 lv (.int 200 :: st) h Q ↔ PW B X 92 52 lv (.ref (B + h.length) :: st) (h ++ [.inl (0, 200, .inl (fun _ => 0))]) Q := PW_step rfl rfl rfl rfl
theorem u_92_52 : PW B X 92 52 lv (v :: .ref a :: st) h Q ↔ pm_O (pm_pf (pm_at B h a) 10 6 v) (fun e => PW B X 92 55 lv (st) (pm_set B h a e) Q) := PW_putf rfl rfl
theorem u_92_55 : PW B X 92 55 [some (.ref a), v1, v2, v3, v4] (st) h Q ↔ PW B X 92 56 [some (.ref a), v1, v2, v3, v4] (.ref a :: st) h Q := PW_step rfl rfl rfl rfl
theorem u_92_55n : PW B X 92 55 [some .null, v1, v2, v3, v4] (st) h Q ↔ PW B X 92 56 [some .null, v1, v2, v3, v4] (.null :: st) h Q := PW_step rfl rfl rfl rfl
theorem u_92_56 : PW B X 92 56 lv (st) h Q ↔ PW B X 92 58 lv (.int 8 :: st) h Q := PW_step rfl rfl rfl rfl
theorem u_92_58 : PW B X 92 58 lv (.int 8 :: st) h Q ↔ PW B X 92 60 lv (.ref (B + h.length) :: st) (h ++ [.inl (0, 8, .inl (fun _ => 0))]) Q := PW_step rfl rfl rfl rfl
theorem u_92_60 : PW B X 92 60 lv (v :: .ref a :: st) h Q ↔ pm_O (pm_pf (pm_at B h a) 10 11 v) (fun e => PW B X 92 63 lv (st) (pm_set B h a e) Q) := PW_putf rfl rfl
theorem u_92_63 : PW B X 92 63 [some (.ref a), v1, v2, v3, v4] (st) h Q ↔ PW B X 92 64 [some (.ref a), v1, v2, v3, v4] (.ref a :: st) h Q := PW_step rfl rfl rfl rfl
theorem u_92_63n : PW B X 92 63 [some .null, v1, v2, v3, v4] (st) h Q ↔ PW B X 92 64 [some .null, v1, v2, v3, v4] (.null :: st) h Q := PW_step rfl rfl rfl rfl
theorem u_92_64 : PW B X 92 64 lv (st) h Q ↔ PW B X 92 67 lv (.int 192 :: st) h Q := PW_step rfl rfl rfl rfl
theorem u_92_67 : PW B X 92 67 lv (.int 192 :: st) h Q ↔ PW B X 92 69 lv (.ref (B + h.length) :: st) (h ++ [.inl (0, 192, .inl (fun _ => 0))]) Q := PW_step rfl rfl rfl rfl
theorem u_92_69 : PW B X 92 69 lv (v :: .ref a :: st) h Q ↔ pm_O (pm_pf (pm_at B h a) 10 12 v) (fun e => PW B X 92 72 lv (st) (pm_set B h a e) Q) := PW_putf rfl rfl
theorem u_92_72 : PW B X 92 72 [some (.ref a), v1, v2, v3, v4] (st) h Q ↔ PW B X 92 73 [some (.ref a), v1, v2, v3, v4] (.ref a :: st) h Q := PW_step rfl rfl rfl rfl
theorem u_92_72n : PW B X 92 72 [some .null, v1, v2, v3, v4] (st) h Q ↔ PW B X 92 73 [some .null, v1, v2, v3, v4] (.null :: st) h Q := PW_step rfl rfl rfl rfl
theorem u_92_73 : PW B X 92 73 lv (st) h Q ↔ PW B X 92 75 lv (.int 8 :: st) h Q := PW_step rfl rfl rfl rfl
theorem u_92_75 : PW B X 92 75 lv (.int 8 :: st) h Q ↔ PW B X 92 77 lv (.ref (B + h.length) :: st) (h ++ [.inl (0, 8, .inl (fun _ => 0))]) Q := PW_step rfl rfl rfl rfl
theorem u_92_77 : PW B X 92 77 lv (v :: .ref a :: st) h Q ↔ pm_O (pm_pf (pm_at B h a) 10 14 v) (fun e => PW B X 92 80 lv (st) (pm_set B h a e) Q) := PW_putf rfl rfl
theorem u_92_80 : PW B X 92 80 [some (.ref a), v1, v2, v3, v4] (st) h Q ↔ PW B X 92 81 [some (.ref a), v1, v2, v3, v4] (.ref a :: st) h Q := PW_step rfl rfl rfl rfl
theorem u_92_80n : PW B X 92 80 [some .null, v1, v2, v3, v4] (st) h Q ↔ PW B X 92 81 [some .null, v1, v2, v3, v4] (.null :: st) h Q := PW_step rfl rfl rfl rfl
theorem u_92_81 : PW B X 92 81 lv (st) h Q ↔ PW B X 92 84 lv (.int 192 :: st) h Q := PW_step rfl rfl rfl rfl
theorem u_92_84 : PW B X 92 84 lv (.int 192 :: st) h Q ↔ PW B X 92 86 lv (.ref (B + h.length) :: st) (h ++ [.inl (0, 192, .inl (fun _ => 0))]) Q := PW_step rfl rfl rfl rfl
theorem u_92_86 : PW B X 92 86 lv (v :: .ref a :: st) h Q ↔ pm_O (pm_pf (pm_at B h a) 10 15 v) (fun e => PW B X 92 89 lv (st) (pm_set B h a e) Q) := PW_putf rfl rfl
theorem u_92_89 : PW B X 92 89 [some (.ref a), v1, v2, v3, v4] (st) h Q ↔ PW B X 92 90 [some (.ref a), v1, v2, v3, v4] (.ref a :: st) h Q := PW_step rfl rfl rfl rfl
theorem u_92_89n : PW B X 92 89 [some .null, v1, v2, v3, v4] (st) h Q ↔ PW B X 92 90 [some .null, v1, v2, v3, v4] (.null :: st) h Q := PW_step rfl rfl rfl rfl
theorem u_92_90 : PW B X 92 90 lv (st) h Q ↔ PW B X 92 92 lv (.int 10 :: st) h Q := PW_step rfl rfl rfl rfl
theorem u_92_92 : PW B X 92 92 lv (.int 10 :: st) h Q ↔ PW B X 92 94 lv (.ref (B + h.length) :: st) (h ++ [.inl (0, 10, .inl (fun _ => 0))]) Q := PW_step rfl rfl rfl rfl
theorem u_92_94 : PW B X 92 94 lv (v :: .ref a :: st) h Q ↔ pm_O (pm_pf (pm_at B h a) 10 16 v) (fun e => PW B X 92 97 lv (st) (pm_set B h a e) Q) := PW_putf rfl rfl
theorem u_92_97 : PW B X 92 97 [some (.ref a), v1, v2, v3, v4] (st) h Q ↔ PW B X 92 98 [some (.ref a), v1, v2, v3, v4] (.ref a :: st) h Q := PW_step rfl rfl rfl rfl
theorem u_92_97n : PW B X 92 97 [some .null, v1, v2, v3, v4] (st) h Q ↔ PW B X 92 98 [some .null, v1, v2, v3, v4] (.null :: st) h Q := PW_step rfl rfl rfl rfl
theorem u_92_98 : PW B X 92 98 lv (st) h Q ↔ PW B X 92 100 lv (.int 10 :: st) h Q := PW_step rfl rfl rfl rfl
theorem u_92_100 : PW B X 92 100 lv (.int 10 :: st) h Q ↔ PW B X 92 102 lv (.ref (B + h.length) :: st) (h ++ [.inl (0, 10, .inl (fun _ => 0))]) Q := PW_step rfl rfl rfl rfl
theorem u_92_102 : PW B X 92 102 lv (v :: .ref a :: st) h Q ↔ pm_O (pm_pf (pm_at B h a) 10 17 v) (fun e => PW B X 92 105 lv (st) (pm_set B h a e) Q) := PW_putf rfl rfl
theorem u_92_105 : PW B X 92 105 [some (.ref a), v1, v2, v3, v4] (st) h Q ↔ PW B X 92 106 [some (.ref a), v1, v2, v3, v4] (.ref a :: st) h Q := PW_step rfl rfl rfl rfl
theorem u_92_105n : PW B X 92 105 [some .null, v1, v2, v3, v4] (st) h Q ↔ PW B X 92 106 [some .null, v1, v2, v3, v4] (.null :: st) h Q := PW_step rfl rfl rfl rfl
theorem u_92_106 : PW B X 92 106 lv (st) h Q ↔ PW B X 92 108 lv (.int 10 :: st) h Q := PW_step rfl rfl rfl rfl
theorem u_92_108 : PW B X 92 108 lv (.int 10 :: st) h Q ↔ PW B X 92 110 lv (.ref (B + h.length) :: st) (h ++ [.inl (0, 10, .inl (fun _ => 0))]) Q := PW_step rfl rfl rfl rfl
theorem u_92_110 : PW B X 92 110 lv (v :: .ref a :: st) h Q ↔ pm_O (pm_pf (pm_at B h a) 10 18 v) (fun e => PW B X 92 113 lv (st) (pm_set B h a e) Q) := PW_putf rfl rfl
theorem u_92_113 : PW B X 92 113 [some (.ref a), v1, v2, v3, v4] (st) h Q ↔ PW B X 92 114 [some (.ref a), v1, v2, v3, v4] (.ref a :: st) h Q := PW_step rfl rfl rfl rfl
theorem u_92_113n : PW B X 92 113 [some .null, v1, v2, v3, v4] (st) h Q ↔ PW B X 92 114 [some .null, v1, v2, v3, v4] (.null :: st) h Q := PW_step rfl rfl rfl rfl
theorem u_92_114 : PW B X 92 114 lv (st) h Q ↔ PW B X 92 117 lv (.int 400 :: st) h Q := PW_step rfl rfl rfl rfl
theorem u_92_117 : PW B X 92 117 lv (.int 400 :: st) h Q ↔ PW B X 92 119 lv (.ref (B + h.length) :: st) (h ++ [.inl (0, 400, .inl (fun _ => 0))]) Q := PW_step rfl rfl rfl rfl
theorem u_92_119 : PW B X 92 119 lv (v :: .ref a :: st) h Q ↔ pm_O (pm_pf (pm_at B h a) 10 20 v) (fun e => PW B X 92 122 lv (st) (pm_set B h a e) Q) := PW_putf rfl rfl
theorem u_92_122 : PW B X 92 122 [some (.ref a), v1, v2, v3, v4] (st) h Q ↔ PW B X 92 123 [some (.ref a), v1, v2, v3, v4] (.ref a :: st) h Q := PW_step rfl rfl rfl rfl
theorem u_92_122n : PW B X 92 122 [some .null, v1, v2, v3, v4] (st) h Q ↔ PW B X 92 123 [some .null, v1, v2, v3, v4] (.null :: st) h Q := PW_step rfl rfl rfl rfl
theorem u_92_123 : PW B X 92 123 lv (st) h Q ↔ PW B X 92 125 lv (.int 12 :: st) h Q := PW_step rfl rfl rfl rfl
theorem u_92_125 : PW B X 92 125 lv (.int 12 :: st) h Q ↔ PW B X 92 127 lv (.ref (B + h.length) :: st) (h ++ [.inl (0, 12, .inl (fun _ => 0))]) Q := PW_step rfl rfl rfl rfl
theorem u_92_127 : PW B X 92 127 lv (v :: .ref a :: st) h Q ↔ pm_O (pm_pf (pm_at B h a) 10 22 v) (fun e => PW B X 92 130 lv (st) (pm_set B h a e) Q) := PW_putf rfl rfl
theorem u_92_130 : PW B X 92 130 [some (.ref a), v1, v2, v3, v4] (st) h Q ↔ PW B X 92 131 [some (.ref a), v1, v2, v3, v4] (.ref a :: st) h Q := PW_step rfl rfl rfl rfl
theorem u_92_130n : PW B X 92 130 [some .null, v1, v2, v3, v4] (st) h Q ↔ PW B X 92 131 [some .null, v1, v2, v3, v4] (.null :: st) h Q := PW_step rfl rfl rfl rfl
theorem u_92_131 : PW B X 92 131 lv (st) h Q ↔ PW B X 92 133 lv (.int 12 :: st) h Q := PW_step rfl rfl rfl rfl
theorem u_92_133 : PW B X 92 133 lv (.int 12 :: st) h Q ↔ PW B X 92 135 lv (.ref (B + h.length) :: st) (h ++ [.inl (0, 12, .inl (fun _ => 0))]) Q := PW_step rfl rfl rfl rfl
theorem u_92_135 : PW B X 92 135 lv (v :: .ref a :: st) h Q ↔ pm_O (pm_pf (pm_at B h a) 10 23 v) (fun e => PW B X 92 138 lv (st) (pm_set B h a e) Q) := PW_putf rfl rfl
theorem u_92_138 : PW B X 92 138 [some (.ref a), v1, v2, v3, v4] (st) h Q ↔ PW B X 92 139 [some (.ref a), v1, v2, v3, v4] (.ref a :: st) h Q := PW_step rfl rfl rfl rfl
theorem u_92_138n : PW B X 92 138 [some .null, v1, v2, v3, v4] (st) h Q ↔ PW B X 92 139 [some .null, v1, v2, v3, v4] (.null :: st) h Q := PW_step rfl rfl rfl rfl
theorem u_92_139 : PW B X 92 139 lv (st) h Q ↔ PW B X 92 142 lv (.int 168 :: st) h Q := PW_step rfl rfl rfl rfl
theorem u_92_142 : PW B X 92 142 lv (.int 168 :: st) h Q ↔ PW B X 92 144 lv (.ref (B + h.length) :: st) (h ++ [.inl (0, 168, .inl (fun _ => 0))]) Q := PW_step rfl rfl rfl rfl
theorem u_92_144 : PW B X 92 144 lv (v :: .ref a :: st) h Q ↔ pm_O (pm_pf (pm_at B h a) 10 26 v) (fun e => PW B X 92 147 lv (st) (pm_set B h a e) Q) := PW_putf rfl rfl
theorem u_92_147 : PW B X 92 147 [some (.ref a), v1, v2, v3, v4] (st) h Q ↔ PW B X 92 148 [some (.ref a), v1, v2, v3, v4] (.ref a :: st) h Q := PW_step rfl rfl rfl rfl
theorem u_92_147n : PW B X 92 147 [some .null, v1, v2, v3, v4] (st) h Q ↔ PW B X 92 148 [some .null, v1, v2, v3, v4] (.null :: st) h Q := PW_step rfl rfl rfl rfl
theorem u_92_148 : PW B X 92 148 lv (st) h Q ↔ PW B X 92 151 lv (.int 320 :: st) h Q := PW_step rfl rfl rfl rfl
theorem u_92_151 : PW B X 92 151 lv (.int 320 :: st) h Q ↔ PW B X 92 153 lv (.ref (B + h.length) :: st) (h ++ [.inl (1, 320, .inr (.inl (fun _ => 0)))]) Q := PW_step rfl rfl rfl rfl
theorem u_92_153 : PW B X 92 153 lv (v :: .ref a :: st) h Q ↔ pm_O (pm_pf (pm_at B h a) 10 27 v) (fun e => PW B X 92 156 lv (st) (pm_set B h a e) Q) := PW_putf rfl rfl
theorem u_92_156 : PW B X 92 156 [some (.ref a), v1, v2, v3, v4] (st) h Q ↔ PW B X 92 157 [some (.ref a), v1, v2, v3, v4] (.ref a :: st) h Q := PW_step rfl rfl rfl rfl
theorem u_92_156n : PW B X 92 156 [some .null, v1, v2, v3, v4] (st) h Q ↔ PW B X 92 157 [some .null, v1, v2, v3, v4] (.null :: st) h Q := PW_step rfl rfl rfl rfl
theorem u_92_157 : PW B X 92 157 lv (st) h Q ↔ PW B X 92 159 lv (.int 8 :: st) h Q := PW_step rfl rfl rfl rfl
theorem u_92_159 : PW B X 92 159 lv (.int 8 :: st) h Q ↔ PW B X 92 161 lv (.ref (B + h.length) :: st) (h ++ [.inl (0, 8, .inl (fun _ => 0))]) Q := PW_step rfl rfl rfl rfl
theorem u_92_161 : PW B X 92 161 lv (v :: .ref a :: st) h Q ↔ pm_O (pm_pf (pm_at B h a) 10 28 v) (fun e => PW B X 92 164 lv (st) (pm_set B h a e) Q) := PW_putf rfl rfl
theorem u_92_164 : PW B X 92 164 [some (.ref a), v1, v2, v3, v4] (st) h Q ↔ PW B X 92 165 [some (.ref a), v1, v2, v3, v4] (.ref a :: st) h Q := PW_step rfl rfl rfl rfl
theorem u_92_164n : PW B X 92 164 [some .null, v1, v2, v3, v4] (st) h Q ↔ PW B X 92 165 [some .null, v1, v2, v3, v4] (.null :: st) h Q := PW_step rfl rfl rfl rfl
theorem u_92_165 : PW B X 92 165 lv (st) h Q ↔ PW B X 92 167 lv (.int 8 :: st) h Q := PW_step rfl rfl rfl rfl
theorem u_92_167 : PW B X 92 167 lv (.int 8 :: st) h Q ↔ PW B X 92 169 lv (.ref (B + h.length) :: st) (h ++ [.inl (0, 8, .inl (fun _ => 0))]) Q := PW_step rfl rfl rfl rfl
theorem u_92_169 : PW B X 92 169 lv (v :: .ref a :: st) h Q ↔ pm_O (pm_pf (pm_at B h a) 10 29 v) (fun e => PW B X 92 172 lv (st) (pm_set B h a e) Q) := PW_putf rfl rfl
theorem u_92_172 : PW B X 92 172 [some (.ref a), v1, v2, v3, v4] (st) h Q ↔ PW B X 92 173 [some (.ref a), v1, v2, v3, v4] (.ref a :: st) h Q := PW_step rfl rfl rfl rfl
theorem u_92_172n : PW B X 92 172 [some .null, v1, v2, v3, v4] (st) h Q ↔ PW B X 92 173 [some .null, v1, v2, v3, v4] (.null :: st) h Q := PW_step rfl rfl rfl rfl
theorem u_92_173 : PW B X 92 173 lv (st) h Q ↔ PW B X 92 176 lv (.int 1344 :: st) h Q := PW_step rfl rfl rfl rfl
theorem u_92_176 : PW B X 92 176 lv (.int 1344 :: st) h Q ↔ PW B X 92 178 lv (.ref (B + h.length) :: st) (h ++ [.inl (0, 1344, .inl (fun _ => 0))]) Q := PW_step rfl rfl rfl rfl
theorem u_92_178 : PW B X 92 178 lv (v :: .ref a :: st) h Q ↔ pm_O (pm_pf (pm_at B h a) 10 30 v) (fun e => PW B X 92 181 lv (st) (pm_set B h a e) Q) := PW_putf rfl rfl
theorem u_92_181 : PW B X 92 181 [some (.ref a), v1, v2, v3, v4] (st) h Q ↔ PW B X 92 182 [some (.ref a), v1, v2, v3, v4] (.ref a :: st) h Q := PW_step rfl rfl rfl rfl
theorem u_92_181n : PW B X 92 181 [some .null, v1, v2, v3, v4] (st) h Q ↔ PW B X 92 182 [some .null, v1, v2, v3, v4] (.null :: st) h Q := PW_step rfl rfl rfl rfl
theorem u_92_182 : PW B X 92 182 lv (st) h Q ↔ PW B X 92 184 lv (.int 10 :: st) h Q := PW_step rfl rfl rfl rfl
theorem u_92_184 : PW B X 92 184 lv (.int 10 :: st) h Q ↔ PW B X 92 186 lv (.ref (B + h.length) :: st) (h ++ [.inl (0, 10, .inl (fun _ => 0))]) Q := PW_step rfl rfl rfl rfl
theorem u_92_186 : PW B X 92 186 lv (v :: .ref a :: st) h Q ↔ pm_O (pm_pf (pm_at B h a) 10 33 v) (fun e => PW B X 92 189 lv (st) (pm_set B h a e) Q) := PW_putf rfl rfl
theorem u_92_189 : PW B X 92 189 [some (.ref a), v1, v2, v3, v4] (st) h Q ↔ PW B X 92 190 [some (.ref a), v1, v2, v3, v4] (.ref a :: st) h Q := PW_step rfl rfl rfl rfl
theorem u_92_189n : PW B X 92 189 [some .null, v1, v2, v3, v4] (st) h Q ↔ PW B X 92 190 [some .null, v1, v2, v3, v4] (.null :: st) h Q := PW_step rfl rfl rfl rfl
theorem u_92_190 : PW B X 92 190 lv (st) h Q ↔ PW B X 92 192 lv (.int 80 :: st) h Q := PW_step rfl rfl rfl rfl
theorem u_92_192 : PW B X 92 192 lv (.int 80 :: st) h Q ↔ PW B X 92 194 lv (.ref (B + h.length) :: st) (h ++ [.inl (1, 80, .inr (.inl (fun _ => 0)))]) Q := PW_step rfl rfl rfl rfl
theorem u_92_194 : PW B X 92 194 lv (v :: .ref a :: st) h Q ↔ pm_O (pm_pf (pm_at B h a) 10 34 v) (fun e => PW B X 92 197 lv (st) (pm_set B h a e) Q) := PW_putf rfl rfl
theorem u_92_197 : PW B X 92 197 lv (st) h Q ↔ PW B X 92 198 lv (.int 0 :: st) h Q := PW_step rfl rfl rfl rfl
theorem u_92_198 : PW B X 92 198 [v0, v1, v2, v3, v4] (.int x :: st) h Q ↔ PW B X 92 199 [pm_c v0, some (.int x), v2, v3, v4] (st) h Q := PW_step rfl rfl rfl rfl
theorem u_92_199 : PW B X 92 199 lv (st) h Q ↔ PW B X 92 200 lv (.int 2 :: st) h Q := PW_step rfl rfl rfl rfl
theorem u_92_200 : PW B X 92 200 [v0, v1, v2, v3, v4] (.int x :: st) h Q ↔ PW B X 92 201 [v0, pm_c v1, some (.int x), v3, v4] (st) h Q := PW_step rfl rfl rfl rfl
theorem u_92_201 : PW B X 92 201 [v0, v1, some (.int x), v3, v4] (st) h Q ↔ PW B X 92 202 [v0, v1, some (.int x), v3, v4] (.int x :: st) h Q := PW_step rfl rfl rfl rfl
theorem u_92_202 : PW B X 92 202 lv (st) h Q ↔ PW B X 92 205 lv (.int 1000 :: st) h Q := PW_step rfl rfl rfl rfl
theorem u_92_205 : PW B X 92 205 lv (.int y :: .int x :: st) h Q ↔ (if y ≤ x then PW B X 92 267 lv (st) h Q else PW B X 92 208 lv (st) h Q) := PW_icmp rfl rfl pm_c_ge
theorem u_92_208 : PW B X 92 208 lv (st) h Q ↔ PW B X 92 209 lv (.int 1 :: st) h Q := PW_step rfl rfl rfl rfl
theorem u_92_209 : PW B X 92 209 [v0, v1, v2, v3, v4] (.int x :: st) h Q ↔ PW B X 92 210 [v0, v1, pm_c v2, some (.int x), v4] (st) h Q := PW_step rfl rfl rfl rfl
theorem u_92_210 : PW B X 92 210 lv (st) h Q ↔ PW B X 92 211 lv (.int 0 :: st) h Q := PW_step rfl rfl rfl rfl
theorem u_92_211 : PW B X 92 211 [v0, v1, v2, v3, v4] (.int x :: st) h Q ↔ PW B X 92 213 [v0, v1, v2, pm_c v3, some (.int x)] (st) h Q := PW_step rfl rfl rfl rfl
theorem u_92_213 : PW B X 92 213 [v0, v1, v2, v3, some (.int x)] (st) h Q ↔ PW B X 92 215 [v0, v1, v2, v3, some (.int x)] (.int x :: st) h Q := PW_step rfl rfl rfl rfl
theorem u_92_215 : PW B X 92 215 [v0, some (.int x), v2, v3, v4] (st) h Q ↔ PW B X 92 216 [v0, some (.int x), v2, v3, v4] (.int x :: st) h Q := PW_step rfl rfl rfl rfl
theorem u_92_216 : PW B X 92 216 lv (.int y :: .int x :: st) h Q ↔ (if y ≤ x then PW B X 92 247 lv (st) h Q else PW B X 92 219 lv (st) h Q) := PW_icmp rfl rfl pm_c_ge
theorem u_92_219 : PW B X 92 219 [v0, v1, v2, some (.int x), v4] (st) h Q ↔ PW B X 92 220 [v0, v1, v2, some (.int x), v4] (.int x :: st) h Q := PW_step rfl rfl rfl rfl
theorem u_92_220 : PW B X 92 220 lv (.int x :: st) h Q ↔ (if x = 0 then PW B X 92 239 lv (st) h Q else PW B X 92 223 lv (st) h Q) := PW_if rfl rfl pm_c_eq
theorem u_92_223 : PW B X 92 223 [v0, v1, some (.int x), v3, v4] (st) h Q ↔ PW B X 92 224 [v0, v1, some (.int x), v3, v4] (.int x :: st) h Q := PW_step rfl rfl rfl rfl
theorem u_92_224 : PW B X 92 224 [some (.ref a), v1, v2, v3, v4] (st) h Q ↔ PW B X 92 225 [some (.ref a), v1, v2, v3, v4] (.ref a :: st) h Q := PW_step rfl rfl rfl rfl
theorem u_92_224n : PW B X 92 224 [some .null, v1, v2, v3, v4] (st) h Q ↔ PW B X 92 225 [some .null, v1, v2, v3, v4] (.null :: st) h Q := PW_step rfl rfl rfl rfl
theorem u_92_225 : PW B X 92 225 lv (.ref a :: st) h Q ↔ pm_O (pm_gf (pm_at B h a) 10 26) (fun v => PW B X 92 228 lv (v :: st) h Q) := PW_getf rfl rfl
theorem u_92_228 : PW B X 92 228 [v0, v1, v2, v3, some (.int x)] (st) h Q ↔ PW B X 92 230 [v0, v1, v2, v3, some (.int x)] (.int x :: st) h Q := PW_step rfl rfl rfl rfl
theorem u_92_230 : PW B X 92 230 lv (.int x :: .ref a :: st) h Q ↔ pm_O (pm_ldi 0 (pm_at B h a) x) (fun v => PW B X 92 231 lv (v :: st) h Q) := PW_iald rfl rfl
theorem u_92_231 : PW B X 92 231 lv (.int y :: .int x :: st) h Q ↔ (¬ y = 0 ∧ PW B X 92 232 lv (.int (x - x / y * y) :: st) h Q) := PW_irem rfl
theorem u_92_232 : PW B X 92 232 lv (.int x :: st) h Q ↔ (if x = 0 then PW B X 92 239 lv (st) h Q else PW B X 92 235 lv (st) h Q) := PW_if rfl rfl pm_c_eq
theorem u_92_235 : PW B X 92 235 lv (st) h Q ↔ PW B X 92 236 lv (.int 1 :: st) h Q := PW_step rfl rfl rfl rfl
theorem u_92_236 : PW B X 92 236 lv (st) h Q ↔ PW B X 92 240 lv (st) h Q := PW_step rfl rfl rfl rfl
theorem u_92_239 : PW B X 92 239 lv (st) h Q ↔ PW B X 92 240 lv (.int 0 :: st) h Q := PW_step rfl rfl rfl rfl
theorem u_92_240 : PW B X 92 240 [v0, v1, v2, v3, v4] (.int x :: st) h Q ↔ PW B X 92 241 [v0, v1, pm_c v2, some (.int x), v4] (st) h Q := PW_step rfl rfl rfl rfl
theorem u_92_241 : PW B X 92 241 [v0, v1, v2, v3, some (.int x)] (st) h Q ↔ PW B X 92 244 [v0, v1, v2, pm_c v3, some (.int (x + 1))] (st) h Q := PW_step rfl rfl rfl rfl
theorem u_92_244 : PW B X 92 244 lv (st) h Q ↔ PW B X 92 213 lv (st) h Q := PW_step rfl rfl rfl rfl
theorem u_92_247 : PW B X 92 247 [v0, v1, v2, some (.int x), v4] (st) h Q ↔ PW B X 92 248 [v0, v1, v2, some (.int x), v4] (.int x :: st) h Q := PW_step rfl rfl rfl rfl
theorem u_92_248 : PW B X 92 248 lv (.int x :: st) h Q ↔ (if x = 0 then PW B X 92 261 lv (st) h Q else PW B X 92 251 lv (st) h Q) := PW_if rfl rfl pm_c_eq
theorem u_92_251 : PW B X 92 251 [some (.ref a), v1, v2, v3, v4] (st) h Q ↔ PW B X 92 252 [some (.ref a), v1, v2, v3, v4] (.ref a :: st) h Q := PW_step rfl rfl rfl rfl
theorem u_92_251n : PW B X 92 251 [some .null, v1, v2, v3, v4] (st) h Q ↔ PW B X 92 252 [some .null, v1, v2, v3, v4] (.null :: st) h Q := PW_step rfl rfl rfl rfl
theorem u_92_252 : PW B X 92 252 lv (.ref a :: st) h Q ↔ pm_O (pm_gf (pm_at B h a) 10 26) (fun v => PW B X 92 255 lv (v :: st) h Q) := PW_getf rfl rfl
theorem u_92_255 : PW B X 92 255 [v0, some (.int x), v2, v3, v4] (st) h Q ↔ PW B X 92 256 [v0, some (.int x), v2, v3, v4] (.int x :: st) h Q := PW_step rfl rfl rfl rfl
theorem u_92_256 : PW B X 92 256 [v0, v1, some (.int x), v3, v4] (st) h Q ↔ PW B X 92 257 [v0, v1, some (.int x), v3, v4] (.int x :: st) h Q := PW_step rfl rfl rfl rfl
theorem u_92_257 : PW B X 92 257 lv (.int y :: .int x :: .ref a :: st) h Q ↔ pm_O (pm_sti 0 (pm_at B h a) x y) (fun e => PW B X 92 258 lv (st) (pm_set B h a e) Q) := PW_iast rfl
theorem u_92_258 : PW B X 92 258 [v0, some (.int x), v2, v3, v4] (st) h Q ↔ PW B X 92 261 [pm_c v0, some (.int (x + 1)), v2, v3, v4] (st) h Q := PW_step rfl rfl rfl rfl
theorem u_92_261 : PW B X 92 261 [v0, v1, some (.int x), v3, v4] (st) h Q ↔ PW B X 92 264 [v0, pm_c v1, some (.int (x + 1)), v3, v4] (st) h Q := PW_step rfl rfl rfl rfl
theorem u_92_264 : PW B X 92 264 lv (st) h Q ↔ PW B X 92 201 lv (st) h Q := PW_step rfl rfl rfl rfl
theorem u_92_267 : PW B X 92 267 lv (st) h Q ↔ PW B X 92 268 lv (.int 0 :: st) h Q := PW_step rfl rfl rfl rfl
theorem u_92_268 : PW B X 92 268 [v0, v1, v2, v3, v4] (.int x :: st) h Q ↔ PW B X 92 269 [v0, pm_c v1, some (.int x), v3, v4] (st) h Q := PW_step rfl rfl rfl rfl
theorem u_92_269 : PW B X 92 269 [v0, v1, some (.int x), v3, v4] (st) h Q ↔ PW B X 92 270 [v0, v1, some (.int x), v3, v4] (.int x :: st) h Q := PW_step rfl rfl rfl rfl
theorem u_92_270 : PW B X 92 270 lv (st) h Q ↔ PW B X 92 273 lv (.int 240 :: st) h Q := PW_step rfl rfl rfl rfl
theorem u_92_273 : PW B X 92 273 lv (.int y :: .int x :: st) h Q ↔ (if y ≤ x then PW B X 92 289 lv (st) h Q else PW B X 92 276 lv (st) h Q) := PW_icmp rfl rfl pm_c_ge
theorem u_92_276 : PW B X 92 276 [some (.ref a), v1, v2, v3, v4] (st) h Q ↔ PW B X 92 277 [some (.ref a), v1, v2, v3, v4] (.ref a :: st) h Q := PW_step rfl rfl rfl rfl
theorem u_92_276n : PW B X 92 276 [some .null, v1, v2, v3, v4] (st) h Q ↔ PW B X 92 277 [some .null, v1, v2, v3, v4] (.null :: st) h Q := PW_step rfl rfl rfl rfl
theorem u_92_277 : PW B X 92 277 lv (.ref a :: st) h Q ↔ pm_O (pm_gf (pm_at B h a) 10 5) (fun v => PW B X 92 280 lv (v :: st) h Q) := PW_getf rfl rfl
theorem u_92_280 : PW B X 92 280 [v0, v1, some (.int x), v3, v4] (st) h Q ↔ PW B X 92 281 [v0, v1, some (.int x), v3, v4] (.int x :: st) h Q := PW_step rfl rfl rfl rfl
theorem u_92_281 : PW B X 92 281 lv (st) h Q ↔ PW B X 92 282 lv (.int 1 :: st) h Q := PW_step rfl rfl rfl rfl
theorem u_92_282 : PW B X 92 282 lv (.int y :: .int x :: .ref a :: st) h Q ↔ pm_O (pm_sti 0 (pm_at B h a) x y) (fun e => PW B X 92 283 lv (st) (pm_set B h a e) Q) := PW_iast rfl
theorem u_92_283 : PW B X 92 283 [v0, v1, some (.int x), v3, v4] (st) h Q ↔ PW B X 92 286 [v0, pm_c v1, some (.int (x + 1)), v3, v4] (st) h Q := PW_step rfl rfl rfl rfl
theorem u_92_286 : PW B X 92 286 lv (st) h Q ↔ PW B X 92 269 lv (st) h Q := PW_step rfl rfl rfl rfl
theorem u_92_289 : PW B X 92 289 lv ([]) h Q ↔ Q none h := PW_ret rfl rfl
-- 93 Ref_bearing
theorem u_93_0 : PW B X 93 0 [some (.ref a), v1, v2] (st) h Q ↔ PW B X 93 1 [some (.ref a), v1, v2] (.ref a :: st) h Q := PW_step rfl rfl rfl rfl
theorem u_93_0n : PW B X 93 0 [some .null, v1, v2] (st) h Q ↔ PW B X 93 1 [some .null, v1, v2] (.null :: st) h Q := PW_step rfl rfl rfl rfl
theorem u_93_1 : PW B X 93 1 lv (.ref a :: st) h Q ↔ pm_O (pm_gf (pm_at B h a) 10 0) (fun v => PW B X 93 4 lv (v :: st) h Q) := PW_getf rfl rfl
theorem u_93_4 : PW B X 93 4 lv (st) h Q ↔ PW B X 93 6 lv (.int 10 :: st) h Q := PW_step rfl rfl rfl rfl
theorem u_93_6 : PW B X 93 6 lv (.int y :: .int x :: st) h Q ↔ (if x = y then PW B X 93 37 lv (st) h Q else PW B X 93 9 lv (st) h Q) := PW_icmp rfl rfl pm_c_eq
theorem u_93_9 : PW B X 93 9 [v0, some (.int x), v2] (st) h Q ↔ PW B X 93 10 [v0, some (.int x), v2] (.int x :: st) h Q := PW_step rfl rfl rfl rfl
theorem u_93_10 : PW B X 93 10 lv (.int x :: st) h Q ↔ PW B X 93 11 lv (.long x.toInt64 :: st) h Q := PW_step rfl rfl rfl rfl
theorem u_93_11 : PW B X 93 11 lv (st) h Q ↔ PW B X 93 14 lv (.long (-100000) :: st) h Q := PW_step rfl rfl rfl rfl
theorem u_93_14 : PW B X 93 14 lv (st) h Q ↔ PW B X 93 17 lv (.long 100000 :: st) h Q := PW_step rfl rfl rfl rfl
theorem u_93_17 : PW B X 93 17 lv (.long p2 :: .long p1 :: .long p0 :: st) h Q ↔ (pm_w st ≤ 8 ∧ PW B X 94 0 [some (.long p0), none, some (.long p1), none, some (.long p2), none] [] h (fun r h' => PW B X 93 20 lv (r.toList ++ st) h' Q)) := PW_cs (y := 94) (as := [.long p0, .long p1, .long p2]) (rest := st) rfl rfl rfl rfl rfl ⟨Nat.le_of_ble_eq_true rfl, Nat.le_of_ble_eq_true rfl, Nat.le_of_ble_eq_true rfl⟩
theorem u_93_20 : PW B X 93 20 lv (.int x :: st) h Q ↔ (if x = 0 then PW B X 93 37 lv (st) h Q else PW B X 93 23 lv (st) h Q) := PW_if rfl rfl pm_c_eq
theorem u_93_23 : PW B X 93 23 [v0, v1, some (.int x)] (st) h Q ↔ PW B X 93 24 [v0, v1, some (.int x)] (.int x :: st) h Q := PW_step rfl rfl rfl rfl
theorem u_93_24 : PW B X 93 24 lv (.int x :: st) h Q ↔ PW B X 93 25 lv (.long x.toInt64 :: st) h Q := PW_step rfl rfl rfl rfl
theorem u_93_25 : PW B X 93 25 lv (st) h Q ↔ PW B X 93 28 lv (.long (-100000) :: st) h Q := PW_step rfl rfl rfl rfl
theorem u_93_28 : PW B X 93 28 lv (st) h Q ↔ PW B X 93 31 lv (.long 100000 :: st) h Q := PW_step rfl rfl rfl rfl
theorem u_93_31 : PW B X 93 31 lv (.long p2 :: .long p1 :: .long p0 :: st) h Q ↔ (pm_w st ≤ 8 ∧ PW B X 94 0 [some (.long p0), none, some (.long p1), none, some (.long p2), none] [] h (fun r h' => PW B X 93 34 lv (r.toList ++ st) h' Q)) := PW_cs (y := 94) (as := [.long p0, .long p1, .long p2]) (rest := st) rfl rfl rfl rfl rfl ⟨Nat.le_of_ble_eq_true rfl, Nat.le_of_ble_eq_true rfl, Nat.le_of_ble_eq_true rfl⟩
theorem u_93_34 : PW B X 93 34 lv (.int x :: st) h Q ↔ (if ¬ x = 0 then PW B X 93 39 lv (st) h Q else PW B X 93 37 lv (st) h Q) := PW_if rfl rfl pm_c_ne
theorem u_93_37 : PW B X 93 37 lv (st) h Q ↔ PW B X 93 38 lv (.int (-1) :: st) h Q := PW_step rfl rfl rfl rfl
theorem u_93_38 : PW B X 93 38 lv ([.int x]) h Q ↔ Q (some (.int x)) h := PW_ret rfl rfl
theorem u_93_39 : PW B X 93 39 [some (.ref a), v1, v2] (st) h Q ↔ PW B X 93 40 [some (.ref a), v1, v2] (.ref a :: st) h Q := PW_step rfl rfl rfl rfl
theorem u_93_39n : PW B X 93 39 [some .null, v1, v2] (st) h Q ↔ PW B X 93 40 [some .null, v1, v2] (.null :: st) h Q := PW_step rfl rfl rfl rfl
theorem u_93_40 : PW B X 93 40 lv (.ref a :: st) h Q ↔ pm_O (pm_gf (pm_at B h a) 10 1) (fun v => PW B X 93 43 lv (v :: st) h Q) := PW_getf rfl rfl
theorem u_93_43 : PW B X 93 43 [some (.ref a), v1, v2] (st) h Q ↔ PW B X 93 44 [some (.ref a), v1, v2] (.ref a :: st) h Q := PW_step rfl rfl rfl rfl
theorem u_93_43n : PW B X 93 43 [some .null, v1, v2] (st) h Q ↔ PW B X 93 44 [some .null, v1, v2] (.null :: st) h Q := PW_step rfl rfl rfl rfl
theorem u_93_44 : PW B X 93 44 lv (.ref a :: st) h Q ↔ pm_O (pm_gf (pm_at B h a) 10 0) (fun v => PW B X 93 47 lv (v :: st) h Q) := PW_getf rfl rfl
theorem u_93_47 : PW B X 93 47 [v0, some (.int x), v2] (st) h Q ↔ PW B X 93 48 [v0, some (.int x), v2] (.int x :: st) h Q := PW_step rfl rfl rfl rfl
theorem u_93_48 : PW B X 93 48 lv (.int y :: .int x :: .ref a :: st) h Q ↔ pm_O (pm_sti 0 (pm_at B h a) x y) (fun e => PW B X 93 49 lv (st) (pm_set B h a e) Q) := PW_iast rfl
theorem u_93_49 : PW B X 93 49 [some (.ref a), v1, v2] (st) h Q ↔ PW B X 93 50 [some (.ref a), v1, v2] (.ref a :: st) h Q := PW_step rfl rfl rfl rfl
theorem u_93_49n : PW B X 93 49 [some .null, v1, v2] (st) h Q ↔ PW B X 93 50 [some .null, v1, v2] (.null :: st) h Q := PW_step rfl rfl rfl rfl
theorem u_93_50 : PW B X 93 50 lv (.ref a :: st) h Q ↔ pm_O (pm_gf (pm_at B h a) 10 2) (fun v => PW B X 93 53 lv (v :: st) h Q) := PW_getf rfl rfl
theorem u_93_53 : PW B X 93 53 [some (.ref a), v1, v2] (st) h Q ↔ PW B X 93 54 [some (.ref a), v1, v2] (.ref a :: st) h Q := PW_step rfl rfl rfl rfl
theorem u_93_53n : PW B X 93 53 [some .null, v1, v2] (st) h Q ↔ PW B X 93 54 [some .null, v1, v2] (.null :: st) h Q := PW_step rfl rfl rfl rfl
theorem u_93_54 : PW B X 93 54 lv (.ref a :: st) h Q ↔ pm_O (pm_gf (pm_at B h a) 10 0) (fun v => PW B X 93 57 lv (v :: st) h Q) := PW_getf rfl rfl
theorem u_93_57 : PW B X 93 57 [v0, v1, some (.int x)] (st) h Q ↔ PW B X 93 58 [v0, v1, some (.int x)] (.int x :: st) h Q := PW_step rfl rfl rfl rfl
theorem u_93_58 : PW B X 93 58 lv (.int y :: .int x :: .ref a :: st) h Q ↔ pm_O (pm_sti 0 (pm_at B h a) x y) (fun e => PW B X 93 59 lv (st) (pm_set B h a e) Q) := PW_iast rfl
theorem u_93_59 : PW B X 93 59 [some (.ref a), v1, v2] (st) h Q ↔ PW B X 93 60 [some (.ref a), v1, v2] (.ref a :: st) h Q := PW_step rfl rfl rfl rfl
theorem u_93_59n : PW B X 93 59 [some .null, v1, v2] (st) h Q ↔ PW B X 93 60 [some .null, v1, v2] (.null :: st) h Q := PW_step rfl rfl rfl rfl
theorem u_93_60 : PW B X 93 60 lv (.ref a :: st) h Q ↔ PW B X 93 61 lv (.ref a :: .ref a :: st) h Q := PW_step rfl rfl rfl rfl
theorem u_93_60i : PW B X 93 60 lv (.int x :: st) h Q ↔ PW B X 93 61 lv (.int x :: .int x :: st) h Q := PW_step rfl rfl rfl rfl
theorem u_93_61 : PW B X 93 61 lv (.ref a :: st) h Q ↔ pm_O (pm_gf (pm_at B h a) 10 0) (fun v => PW B X 93 64 lv (v :: st) h Q) := PW_getf rfl rfl
theorem u_93_64 : PW B X 93 64 lv (st) h Q ↔ PW B X 93 65 lv (.int 1 :: st) h Q := PW_step rfl rfl rfl rfl
theorem u_93_65 : PW B X 93 65 lv (.int y :: .int x :: st) h Q ↔ PW B X 93 66 lv (.int (x + y) :: st) h Q := PW_step rfl rfl rfl rfl
theorem u_93_66 : PW B X 93 66 lv (v :: .ref a :: st) h Q ↔ pm_O (pm_pf (pm_at B h a) 10 0 v) (fun e => PW B X 93 69 lv (st) (pm_set B h a e) Q) := PW_putf rfl rfl
theorem u_93_69 : PW B X 93 69 [some (.ref a), v1, v2] (st) h Q ↔ PW B X 93 70 [some (.ref a), v1, v2] (.ref a :: st) h Q := PW_step rfl rfl rfl rfl
theorem u_93_69n : PW B X 93 69 [some .null, v1, v2] (st) h Q ↔ PW B X 93 70 [some .null, v1, v2] (.null :: st) h Q := PW_step rfl rfl rfl rfl
theorem u_93_70 : PW B X 93 70 lv (st) h Q ↔ PW B X 93 71 lv (.int 0 :: st) h Q := PW_step rfl rfl rfl rfl
theorem u_93_71 : PW B X 93 71 lv (v :: .ref a :: st) h Q ↔ pm_O (pm_pf (pm_at B h a) 10 25 v) (fun e => PW B X 93 74 lv (st) (pm_set B h a e) Q) := PW_putf rfl rfl
theorem u_93_74 : PW B X 93 74 [some (.ref a), v1, v2] (st) h Q ↔ PW B X 93 75 [some (.ref a), v1, v2] (.ref a :: st) h Q := PW_step rfl rfl rfl rfl
theorem u_93_74n : PW B X 93 74 [some .null, v1, v2] (st) h Q ↔ PW B X 93 75 [some .null, v1, v2] (.null :: st) h Q := PW_step rfl rfl rfl rfl
theorem u_93_75 : PW B X 93 75 lv (.ref a :: st) h Q ↔ pm_O (pm_gf (pm_at B h a) 10 0) (fun v => PW B X 93 78 lv (v :: st) h Q) := PW_getf rfl rfl
theorem u_93_78 : PW B X 93 78 lv (st) h Q ↔ PW B X 93 79 lv (.int 1 :: st) h Q := PW_step rfl rfl rfl rfl
theorem u_93_79 : PW B X 93 79 lv (.int y :: .int x :: st) h Q ↔ PW B X 93 80 lv (.int (x - y) :: st) h Q := PW_step rfl rfl rfl rfl
theorem u_93_80 : PW B X 93 80 lv ([.int x]) h Q ↔ Q (some (.int x)) h := PW_ret rfl rfl
-- 94 Ref_in
theorem u_94_0 : PW B X 94 0 [some (.long z), v1, v2, v3, v4, v5] (st) h Q ↔ PW B X 94 1 [some (.long z), v1, v2, v3, v4, v5] (.long z :: st) h Q := PW_step rfl rfl rfl rfl
theorem u_94_1 : PW B X 94 1 [v0, v1, some (.long z), v3, v4, v5] (st) h Q ↔ PW B X 94 2 [v0, v1, some (.long z), v3, v4, v5] (.long z :: st) h Q := PW_step rfl rfl rfl rfl
theorem u_94_2 : PW B X 94 2 lv (.long w :: .long z :: st) h Q ↔ PW B X 94 3 lv (.int (lg_cmp z w) :: st) h Q := PW_step rfl rfl rfl rfl
theorem u_94_3 : PW B X 94 3 lv (.int x :: st) h Q ↔ (if x < 0 then PW B X 94 17 lv (st) h Q else PW B X 94 6 lv (st) h Q) := PW_if rfl rfl pm_c_lt
theorem u_94_6 : PW B X 94 6 [some (.long z), v1, v2, v3, v4, v5] (st) h Q ↔ PW B X 94 7 [some (.long z), v1, v2, v3, v4, v5] (.long z :: st) h Q := PW_step rfl rfl rfl rfl
theorem u_94_7 : PW B X 94 7 [v0, v1, v2, v3, some (.long z), v5] (st) h Q ↔ PW B X 94 9 [v0, v1, v2, v3, some (.long z), v5] (.long z :: st) h Q := PW_step rfl rfl rfl rfl
theorem u_94_9 : PW B X 94 9 lv (.long w :: .long z :: st) h Q ↔ PW B X 94 10 lv (.int (lg_cmp z w) :: st) h Q := PW_step rfl rfl rfl rfl
theorem u_94_10 : PW B X 94 10 lv (.int x :: st) h Q ↔ (if 0 < x then PW B X 94 17 lv (st) h Q else PW B X 94 13 lv (st) h Q) := PW_if rfl rfl pm_c_gt
theorem u_94_13 : PW B X 94 13 lv (st) h Q ↔ PW B X 94 14 lv (.int 1 :: st) h Q := PW_step rfl rfl rfl rfl
theorem u_94_14 : PW B X 94 14 lv (st) h Q ↔ PW B X 94 18 lv (st) h Q := PW_step rfl rfl rfl rfl
theorem u_94_17 : PW B X 94 17 lv (st) h Q ↔ PW B X 94 18 lv (.int 0 :: st) h Q := PW_step rfl rfl rfl rfl
theorem u_94_18 (hx : narrow .boolean (.int x) = .int x) : PW B X 94 18 lv ([.int x]) h Q ↔ Q (some (.int x)) h := PW_bret rfl rfl (by simp) hx
theorem u_94_18_0 : PW B X 94 18 lv ([.int 0]) h Q ↔ Q (some (.int 0)) h := u_94_18 rfl
theorem u_94_18_1 : PW B X 94 18 lv ([.int 1]) h Q ↔ Q (some (.int 1)) h := u_94_18 rfl
-- 95 Ref_held
theorem u_95_0 : PW B X 95 0 [some (.ref a), v1, v2, v3] (st) h Q ↔ PW B X 95 1 [some (.ref a), v1, v2, v3] (.ref a :: st) h Q := PW_step rfl rfl rfl rfl
theorem u_95_0n : PW B X 95 0 [some .null, v1, v2, v3] (st) h Q ↔ PW B X 95 1 [some .null, v1, v2, v3] (.null :: st) h Q := PW_step rfl rfl rfl rfl
theorem u_95_1 : PW B X 95 1 [v0, some (.int x), v2, v3] (st) h Q ↔ PW B X 95 2 [v0, some (.int x), v2, v3] (.int x :: st) h Q := PW_step rfl rfl rfl rfl
theorem u_95_2 : PW B X 95 2 lv (.int q0 :: .ref a :: st) h Q ↔ (pm_w st ≤ 8 ∧ pm_io B h a 10 = true ∧ PW B X 96 0 [some (.ref a), some (.int q0)] [] h (fun r h' => PW B X 95 5 lv (r.toList ++ st) h' Q)) := PW_cv (y := 96) (as := [.int q0]) (rest := st) rfl rfl rfl rfl rfl ⟨Nat.le_of_ble_eq_true rfl, Nat.le_of_ble_eq_true rfl, Nat.le_of_ble_eq_true rfl⟩
theorem u_95_5 : PW B X 95 5 lv (.int x :: st) h Q ↔ (if x = 0 then PW B X 95 18 lv (st) h Q else PW B X 95 8 lv (st) h Q) := PW_if rfl rfl pm_c_eq
theorem u_95_8 : PW B X 95 8 [v0, v1, some (.int x), v3] (st) h Q ↔ PW B X 95 9 [v0, v1, some (.int x), v3] (.int x :: st) h Q := PW_step rfl rfl rfl rfl
theorem u_95_9 : PW B X 95 9 lv (.int x :: st) h Q ↔ PW B X 95 10 lv (.long x.toInt64 :: st) h Q := PW_step rfl rfl rfl rfl
theorem u_95_10 : PW B X 95 10 lv (st) h Q ↔ PW B X 95 11 lv (.long 0 :: st) h Q := PW_step rfl rfl rfl rfl
theorem u_95_11 : PW B X 95 11 lv (st) h Q ↔ PW B X 95 12 lv (.long 1 :: st) h Q := PW_step rfl rfl rfl rfl
theorem u_95_12 : PW B X 95 12 lv (.long p2 :: .long p1 :: .long p0 :: st) h Q ↔ (pm_w st ≤ 8 ∧ PW B X 94 0 [some (.long p0), none, some (.long p1), none, some (.long p2), none] [] h (fun r h' => PW B X 95 15 lv (r.toList ++ st) h' Q)) := PW_cs (y := 94) (as := [.long p0, .long p1, .long p2]) (rest := st) rfl rfl rfl rfl rfl ⟨Nat.le_of_ble_eq_true rfl, Nat.le_of_ble_eq_true rfl, Nat.le_of_ble_eq_true rfl⟩
theorem u_95_15 : PW B X 95 15 lv (.int x :: st) h Q ↔ (if ¬ x = 0 then PW B X 95 20 lv (st) h Q else PW B X 95 18 lv (st) h Q) := PW_if rfl rfl pm_c_ne
theorem u_95_18 : PW B X 95 18 lv (st) h Q ↔ PW B X 95 19 lv (.int 0 :: st) h Q := PW_step rfl rfl rfl rfl
theorem u_95_19 (hx : narrow .boolean (.int x) = .int x) : PW B X 95 19 lv ([.int x]) h Q ↔ Q (some (.int x)) h := PW_bret rfl rfl (by simp) hx
theorem u_95_19_0 : PW B X 95 19 lv ([.int 0]) h Q ↔ Q (some (.int 0)) h := u_95_19 rfl
theorem u_95_19_1 : PW B X 95 19 lv ([.int 1]) h Q ↔ Q (some (.int 1)) h := u_95_19 rfl
theorem u_95_20 : PW B X 95 20 [some (.ref a), v1, v2, v3] (st) h Q ↔ PW B X 95 21 [some (.ref a), v1, v2, v3] (.ref a :: st) h Q := PW_step rfl rfl rfl rfl
theorem u_95_20n : PW B X 95 20 [some .null, v1, v2, v3] (st) h Q ↔ PW B X 95 21 [some .null, v1, v2, v3] (.null :: st) h Q := PW_step rfl rfl rfl rfl
theorem u_95_21 : PW B X 95 21 lv (.ref a :: st) h Q ↔ pm_O (pm_gf (pm_at B h a) 10 3) (fun v => PW B X 95 24 lv (v :: st) h Q) := PW_getf rfl rfl
theorem u_95_24 : PW B X 95 24 lv (st) h Q ↔ PW B X 95 25 lv (.int 2 :: st) h Q := PW_step rfl rfl rfl rfl
theorem u_95_25 : PW B X 95 25 [v0, some (.int x), v2, v3] (st) h Q ↔ PW B X 95 26 [v0, some (.int x), v2, v3] (.int x :: st) h Q := PW_step rfl rfl rfl rfl
theorem u_95_26 : PW B X 95 26 lv (.int y :: .int x :: st) h Q ↔ PW B X 95 27 lv (.int (x * y) :: st) h Q := PW_step rfl rfl rfl rfl
theorem u_95_27 : PW B X 95 27 [v0, v1, some (.int x), v3] (st) h Q ↔ PW B X 95 28 [v0, v1, some (.int x), v3] (.int x :: st) h Q := PW_step rfl rfl rfl rfl
theorem u_95_28 : PW B X 95 28 lv (.int y :: .int x :: st) h Q ↔ PW B X 95 29 lv (.int (x + y) :: st) h Q := PW_step rfl rfl rfl rfl
theorem u_95_29 : PW B X 95 29 [v0, v1, v2, some (.int x)] (st) h Q ↔ PW B X 95 30 [v0, v1, v2, some (.int x)] (.int x :: st) h Q := PW_step rfl rfl rfl rfl
theorem u_95_30 : PW B X 95 30 lv (.int y :: .int x :: .ref a :: st) h Q ↔ pm_O (pm_sti 3 (pm_at B h a) x y) (fun e => PW B X 95 31 lv (st) (pm_set B h a e) Q) := PW_bast rfl
theorem u_95_31 : PW B X 95 31 lv (st) h Q ↔ PW B X 95 32 lv (.int 1 :: st) h Q := PW_step rfl rfl rfl rfl
theorem u_95_32 (hx : narrow .boolean (.int x) = .int x) : PW B X 95 32 lv ([.int x]) h Q ↔ Q (some (.int x)) h := PW_bret rfl rfl (by simp) hx
theorem u_95_32_0 : PW B X 95 32 lv ([.int 0]) h Q ↔ Q (some (.int 0)) h := u_95_32 rfl
theorem u_95_32_1 : PW B X 95 32 lv ([.int 1]) h Q ↔ Q (some (.int 1)) h := u_95_32 rfl
-- 96 Ref_isBearing
theorem u_96_0 : PW B X 96 0 [v0, some (.int x)] (st) h Q ↔ PW B X 96 1 [v0, some (.int x)] (.int x :: st) h Q := PW_step rfl rfl rfl rfl
theorem u_96_1 : PW B X 96 1 lv (.int x :: st) h Q ↔ PW B X 96 2 lv (.long x.toInt64 :: st) h Q := PW_step rfl rfl rfl rfl
theorem u_96_2 : PW B X 96 2 lv (st) h Q ↔ PW B X 96 3 lv (.long 0 :: st) h Q := PW_step rfl rfl rfl rfl
theorem u_96_3 : PW B X 96 3 [some (.ref a), v1] (st) h Q ↔ PW B X 96 4 [some (.ref a), v1] (.ref a :: st) h Q := PW_step rfl rfl rfl rfl
theorem u_96_3n : PW B X 96 3 [some .null, v1] (st) h Q ↔ PW B X 96 4 [some .null, v1] (.null :: st) h Q := PW_step rfl rfl rfl rfl
theorem u_96_4 : PW B X 96 4 lv (.ref a :: st) h Q ↔ pm_O (pm_gf (pm_at B h a) 10 0) (fun v => PW B X 96 7 lv (v :: st) h Q) := PW_getf rfl rfl
theorem u_96_7 : PW B X 96 7 lv (st) h Q ↔ PW B X 96 8 lv (.int 1 :: st) h Q := PW_step rfl rfl rfl rfl
theorem u_96_8 : PW B X 96 8 lv (.int y :: .int x :: st) h Q ↔ PW B X 96 9 lv (.int (x - y) :: st) h Q := PW_step rfl rfl rfl rfl
theorem u_96_9 : PW B X 96 9 lv (.int x :: st) h Q ↔ PW B X 96 10 lv (.long x.toInt64 :: st) h Q := PW_step rfl rfl rfl rfl
theorem u_96_10 : PW B X 96 10 lv (.long p2 :: .long p1 :: .long p0 :: st) h Q ↔ (pm_w st ≤ 8 ∧ PW B X 94 0 [some (.long p0), none, some (.long p1), none, some (.long p2), none] [] h (fun r h' => PW B X 96 13 lv (r.toList ++ st) h' Q)) := PW_cs (y := 94) (as := [.long p0, .long p1, .long p2]) (rest := st) rfl rfl rfl rfl rfl ⟨Nat.le_of_ble_eq_true rfl, Nat.le_of_ble_eq_true rfl, Nat.le_of_ble_eq_true rfl⟩
theorem u_96_13 (hx : narrow .boolean (.int x) = .int x) : PW B X 96 13 lv ([.int x]) h Q ↔ Q (some (.int x)) h := PW_bret rfl rfl (by simp) hx
theorem u_96_13_0 : PW B X 96 13 lv ([.int 0]) h Q ↔ Q (some (.int 0)) h := u_96_13 rfl
theorem u_96_13_1 : PW B X 96 13 lv ([.int 1]) h Q ↔ Q (some (.int 1)) h := u_96_13 rfl
-- 97 Ref_value
theorem u_97_0 : PW B X 97 0 [v0, some (.int x), v2, v3, v4, v5, v6] (st) h Q ↔ PW B X 97 1 [v0, some (.int x), v2, v3, v4, v5, v6] (.int x :: st) h Q := PW_step rfl rfl rfl rfl
theorem u_97_1 : PW B X 97 1 lv (.int x :: st) h Q ↔ PW B X 97 2 lv (.long x.toInt64 :: st) h Q := PW_step rfl rfl rfl rfl
theorem u_97_2 : PW B X 97 2 lv (st) h Q ↔ PW B X 97 3 lv (.long 0 :: st) h Q := PW_step rfl rfl rfl rfl
theorem u_97_3 : PW B X 97 3 lv (st) h Q ↔ PW B X 97 6 lv (.long 7 :: st) h Q := PW_step rfl rfl rfl rfl
theorem u_97_6 : PW B X 97 6 lv (.long p2 :: .long p1 :: .long p0 :: st) h Q ↔ (pm_w st ≤ 8 ∧ PW B X 94 0 [some (.long p0), none, some (.long p1), none, some (.long p2), none] [] h (fun r h' => PW B X 97 9 lv (r.toList ++ st) h' Q)) := PW_cs (y := 94) (as := [.long p0, .long p1, .long p2]) (rest := st) rfl rfl rfl rfl rfl ⟨Nat.le_of_ble_eq_true rfl, Nat.le_of_ble_eq_true rfl, Nat.le_of_ble_eq_true rfl⟩
theorem u_97_9 : PW B X 97 9 lv (.int x :: st) h Q ↔ (if x = 0 then PW B X 97 60 lv (st) h Q else PW B X 97 12 lv (st) h Q) := PW_if rfl rfl pm_c_eq
theorem u_97_12 : PW B X 97 12 [some (.ref a), v1, v2, v3, v4, v5, v6] (st) h Q ↔ PW B X 97 13 [some (.ref a), v1, v2, v3, v4, v5, v6] (.ref a :: st) h Q := PW_step rfl rfl rfl rfl
theorem u_97_12n : PW B X 97 12 [some .null, v1, v2, v3, v4, v5, v6] (st) h Q ↔ PW B X 97 13 [some .null, v1, v2, v3, v4, v5, v6] (.null :: st) h Q := PW_step rfl rfl rfl rfl
theorem u_97_13 : PW B X 97 13 [v0, v1, some (.int x), v3, v4, v5, v6] (st) h Q ↔ PW B X 97 14 [v0, v1, some (.int x), v3, v4, v5, v6] (.int x :: st) h Q := PW_step rfl rfl rfl rfl
theorem u_97_14 : PW B X 97 14 lv (.int q0 :: .ref a :: st) h Q ↔ (pm_w st ≤ 8 ∧ pm_io B h a 10 = true ∧ PW B X 96 0 [some (.ref a), some (.int q0)] [] h (fun r h' => PW B X 97 17 lv (r.toList ++ st) h' Q)) := PW_cv (y := 96) (as := [.int q0]) (rest := st) rfl rfl rfl rfl rfl ⟨Nat.le_of_ble_eq_true rfl, Nat.le_of_ble_eq_true rfl, Nat.le_of_ble_eq_true rfl⟩
theorem u_97_17 : PW B X 97 17 lv (.int x :: st) h Q ↔ (if x = 0 then PW B X 97 60 lv (st) h Q else PW B X 97 20 lv (st) h Q) := PW_if rfl rfl pm_c_eq
theorem u_97_20 : PW B X 97 20 [v0, v1, v2, some (.int x), v4, v5, v6] (st) h Q ↔ PW B X 97 21 [v0, v1, v2, some (.int x), v4, v5, v6] (.int x :: st) h Q := PW_step rfl rfl rfl rfl
theorem u_97_21 : PW B X 97 21 lv (.int x :: st) h Q ↔ PW B X 97 22 lv (.long x.toInt64 :: st) h Q := PW_step rfl rfl rfl rfl
theorem u_97_22 : PW B X 97 22 lv (st) h Q ↔ PW B X 97 23 lv (.long 0 :: st) h Q := PW_step rfl rfl rfl rfl
theorem u_97_23 : PW B X 97 23 lv (st) h Q ↔ PW B X 97 26 lv (.long 2 :: st) h Q := PW_step rfl rfl rfl rfl
theorem u_97_26 : PW B X 97 26 lv (.long p2 :: .long p1 :: .long p0 :: st) h Q ↔ (pm_w st ≤ 8 ∧ PW B X 94 0 [some (.long p0), none, some (.long p1), none, some (.long p2), none] [] h (fun r h' => PW B X 97 29 lv (r.toList ++ st) h' Q)) := PW_cs (y := 94) (as := [.long p0, .long p1, .long p2]) (rest := st) rfl rfl rfl rfl rfl ⟨Nat.le_of_ble_eq_true rfl, Nat.le_of_ble_eq_true rfl, Nat.le_of_ble_eq_true rfl⟩
theorem u_97_29 : PW B X 97 29 lv (.int x :: st) h Q ↔ (if x = 0 then PW B X 97 60 lv (st) h Q else PW B X 97 32 lv (st) h Q) := PW_if rfl rfl pm_c_eq
theorem u_97_32 : PW B X 97 32 [v0, v1, v2, v3, some (.int x), v5, v6] (st) h Q ↔ PW B X 97 34 [v0, v1, v2, v3, some (.int x), v5, v6] (.int x :: st) h Q := PW_step rfl rfl rfl rfl
theorem u_97_34 : PW B X 97 34 lv (.int x :: st) h Q ↔ PW B X 97 35 lv (.long x.toInt64 :: st) h Q := PW_step rfl rfl rfl rfl
theorem u_97_35 : PW B X 97 35 lv (st) h Q ↔ PW B X 97 38 lv (.long (-1000000) :: st) h Q := PW_step rfl rfl rfl rfl
theorem u_97_38 : PW B X 97 38 lv (st) h Q ↔ PW B X 97 41 lv (.long 1000000 :: st) h Q := PW_step rfl rfl rfl rfl
theorem u_97_41 : PW B X 97 41 lv (.long p2 :: .long p1 :: .long p0 :: st) h Q ↔ (pm_w st ≤ 8 ∧ PW B X 94 0 [some (.long p0), none, some (.long p1), none, some (.long p2), none] [] h (fun r h' => PW B X 97 44 lv (r.toList ++ st) h' Q)) := PW_cs (y := 94) (as := [.long p0, .long p1, .long p2]) (rest := st) rfl rfl rfl rfl rfl ⟨Nat.le_of_ble_eq_true rfl, Nat.le_of_ble_eq_true rfl, Nat.le_of_ble_eq_true rfl⟩
theorem u_97_44 : PW B X 97 44 lv (.int x :: st) h Q ↔ (if x = 0 then PW B X 97 60 lv (st) h Q else PW B X 97 47 lv (st) h Q) := PW_if rfl rfl pm_c_eq
theorem u_97_47 : PW B X 97 47 [v0, v1, v2, v3, v4, some (.int x), v6] (st) h Q ↔ PW B X 97 49 [v0, v1, v2, v3, v4, some (.int x), v6] (.int x :: st) h Q := PW_step rfl rfl rfl rfl
theorem u_97_49 : PW B X 97 49 lv (.int x :: st) h Q ↔ PW B X 97 50 lv (.long x.toInt64 :: st) h Q := PW_step rfl rfl rfl rfl
theorem u_97_50 : PW B X 97 50 lv (st) h Q ↔ PW B X 97 51 lv (.long 1 :: st) h Q := PW_step rfl rfl rfl rfl
theorem u_97_51 : PW B X 97 51 lv (st) h Q ↔ PW B X 97 54 lv (.long 1000 :: st) h Q := PW_step rfl rfl rfl rfl
theorem u_97_54 : PW B X 97 54 lv (.long p2 :: .long p1 :: .long p0 :: st) h Q ↔ (pm_w st ≤ 8 ∧ PW B X 94 0 [some (.long p0), none, some (.long p1), none, some (.long p2), none] [] h (fun r h' => PW B X 97 57 lv (r.toList ++ st) h' Q)) := PW_cs (y := 94) (as := [.long p0, .long p1, .long p2]) (rest := st) rfl rfl rfl rfl rfl ⟨Nat.le_of_ble_eq_true rfl, Nat.le_of_ble_eq_true rfl, Nat.le_of_ble_eq_true rfl⟩
theorem u_97_57 : PW B X 97 57 lv (.int x :: st) h Q ↔ (if ¬ x = 0 then PW B X 97 62 lv (st) h Q else PW B X 97 60 lv (st) h Q) := PW_if rfl rfl pm_c_ne
theorem u_97_60 : PW B X 97 60 lv (st) h Q ↔ PW B X 97 61 lv (.int 0 :: st) h Q := PW_step rfl rfl rfl rfl
theorem u_97_61 (hx : narrow .boolean (.int x) = .int x) : PW B X 97 61 lv ([.int x]) h Q ↔ Q (some (.int x)) h := PW_bret rfl rfl (by simp) hx
theorem u_97_61_0 : PW B X 97 61 lv ([.int 0]) h Q ↔ Q (some (.int 0)) h := u_97_61 rfl
theorem u_97_61_1 : PW B X 97 61 lv ([.int 1]) h Q ↔ Q (some (.int 1)) h := u_97_61 rfl
theorem u_97_62 : PW B X 97 62 lv (st) h Q ↔ PW B X 97 63 lv (.int 3 :: st) h Q := PW_step rfl rfl rfl rfl
theorem u_97_63 : PW B X 97 63 lv (st) h Q ↔ PW B X 97 65 lv (.int 10 :: st) h Q := PW_step rfl rfl rfl rfl
theorem u_97_65 : PW B X 97 65 [v0, some (.int x), v2, v3, v4, v5, v6] (st) h Q ↔ PW B X 97 66 [v0, some (.int x), v2, v3, v4, v5, v6] (.int x :: st) h Q := PW_step rfl rfl rfl rfl
theorem u_97_66 : PW B X 97 66 lv (.int y :: .int x :: st) h Q ↔ PW B X 97 67 lv (.int (x * y) :: st) h Q := PW_step rfl rfl rfl rfl
theorem u_97_67 : PW B X 97 67 [v0, v1, some (.int x), v3, v4, v5, v6] (st) h Q ↔ PW B X 97 68 [v0, v1, some (.int x), v3, v4, v5, v6] (.int x :: st) h Q := PW_step rfl rfl rfl rfl
theorem u_97_68 : PW B X 97 68 lv (.int y :: .int x :: st) h Q ↔ PW B X 97 69 lv (.int (x + y) :: st) h Q := PW_step rfl rfl rfl rfl
theorem u_97_69 : PW B X 97 69 lv (.int y :: .int x :: st) h Q ↔ PW B X 97 70 lv (.int (x * y) :: st) h Q := PW_step rfl rfl rfl rfl
theorem u_97_70 : PW B X 97 70 [v0, v1, v2, some (.int x), v4, v5, v6] (st) h Q ↔ PW B X 97 71 [v0, v1, v2, some (.int x), v4, v5, v6] (.int x :: st) h Q := PW_step rfl rfl rfl rfl
theorem u_97_71 : PW B X 97 71 lv (.int y :: .int x :: st) h Q ↔ PW B X 97 72 lv (.int (x + y) :: st) h Q := PW_step rfl rfl rfl rfl
theorem u_97_72 : PW B X 97 72 [v0, v1, v2, v3, v4, v5, v6] (.int x :: st) h Q ↔ PW B X 97 74 [v0, v1, v2, v3, v4, pm_c v5, some (.int x)] (st) h Q := PW_step rfl rfl rfl rfl
theorem u_97_74 : PW B X 97 74 [some (.ref a), v1, v2, v3, v4, v5, v6] (st) h Q ↔ PW B X 97 75 [some (.ref a), v1, v2, v3, v4, v5, v6] (.ref a :: st) h Q := PW_step rfl rfl rfl rfl
theorem u_97_74n : PW B X 97 74 [some .null, v1, v2, v3, v4, v5, v6] (st) h Q ↔ PW B X 97 75 [some .null, v1, v2, v3, v4, v5, v6] (.null :: st) h Q := PW_step rfl rfl rfl rfl
theorem u_97_75 : PW B X 97 75 lv (.ref a :: st) h Q ↔ pm_O (pm_gf (pm_at B h a) 10 4) (fun v => PW B X 97 78 lv (v :: st) h Q) := PW_getf rfl rfl
theorem u_97_78 : PW B X 97 78 [v0, v1, v2, v3, v4, v5, some (.int x)] (st) h Q ↔ PW B X 97 80 [v0, v1, v2, v3, v4, v5, some (.int x)] (.int x :: st) h Q := PW_step rfl rfl rfl rfl
theorem u_97_80 : PW B X 97 80 [v0, v1, v2, v3, some (.int x), v5, v6] (st) h Q ↔ PW B X 97 82 [v0, v1, v2, v3, some (.int x), v5, v6] (.int x :: st) h Q := PW_step rfl rfl rfl rfl
theorem u_97_82 : PW B X 97 82 lv (.int y :: .int x :: .ref a :: st) h Q ↔ pm_O (pm_sti 0 (pm_at B h a) x y) (fun e => PW B X 97 83 lv (st) (pm_set B h a e) Q) := PW_iast rfl
theorem u_97_83 : PW B X 97 83 [some (.ref a), v1, v2, v3, v4, v5, v6] (st) h Q ↔ PW B X 97 84 [some (.ref a), v1, v2, v3, v4, v5, v6] (.ref a :: st) h Q := PW_step rfl rfl rfl rfl
theorem u_97_83n : PW B X 97 83 [some .null, v1, v2, v3, v4, v5, v6] (st) h Q ↔ PW B X 97 84 [some .null, v1, v2, v3, v4, v5, v6] (.null :: st) h Q := PW_step rfl rfl rfl rfl
theorem u_97_84 : PW B X 97 84 lv (.ref a :: st) h Q ↔ pm_O (pm_gf (pm_at B h a) 10 5) (fun v => PW B X 97 87 lv (v :: st) h Q) := PW_getf rfl rfl
theorem u_97_87 : PW B X 97 87 [v0, v1, v2, v3, v4, v5, some (.int x)] (st) h Q ↔ PW B X 97 89 [v0, v1, v2, v3, v4, v5, some (.int x)] (.int x :: st) h Q := PW_step rfl rfl rfl rfl
theorem u_97_89 : PW B X 97 89 [v0, v1, v2, v3, v4, some (.int x), v6] (st) h Q ↔ PW B X 97 91 [v0, v1, v2, v3, v4, some (.int x), v6] (.int x :: st) h Q := PW_step rfl rfl rfl rfl
theorem u_97_91 : PW B X 97 91 lv (.int y :: .int x :: .ref a :: st) h Q ↔ pm_O (pm_sti 0 (pm_at B h a) x y) (fun e => PW B X 97 92 lv (st) (pm_set B h a e) Q) := PW_iast rfl
theorem u_97_92 : PW B X 97 92 lv (st) h Q ↔ PW B X 97 93 lv (.int 1 :: st) h Q := PW_step rfl rfl rfl rfl
theorem u_97_93 (hx : narrow .boolean (.int x) = .int x) : PW B X 97 93 lv ([.int x]) h Q ↔ Q (some (.int x)) h := PW_bret rfl rfl (by simp) hx
theorem u_97_93_0 : PW B X 97 93 lv ([.int 0]) h Q ↔ Q (some (.int 0)) h := u_97_93 rfl
theorem u_97_93_1 : PW B X 97 93 lv ([.int 1]) h Q ↔ Q (some (.int 1)) h := u_97_93 rfl
-- 98 Ref_unit
theorem u_98_0 : PW B X 98 0 [v0, some (.int x)] (st) h Q ↔ PW B X 98 1 [v0, some (.int x)] (.int x :: st) h Q := PW_step rfl rfl rfl rfl
theorem u_98_1 : PW B X 98 1 lv (.int x :: st) h Q ↔ PW B X 98 2 lv (.long x.toInt64 :: st) h Q := PW_step rfl rfl rfl rfl
theorem u_98_2 : PW B X 98 2 lv (st) h Q ↔ PW B X 98 5 lv (.long 32 :: st) h Q := PW_step rfl rfl rfl rfl
theorem u_98_5 : PW B X 98 5 lv (st) h Q ↔ PW B X 98 8 lv (.long 126 :: st) h Q := PW_step rfl rfl rfl rfl
theorem u_98_8 : PW B X 98 8 lv (.long p2 :: .long p1 :: .long p0 :: st) h Q ↔ (pm_w st ≤ 8 ∧ PW B X 94 0 [some (.long p0), none, some (.long p1), none, some (.long p2), none] [] h (fun r h' => PW B X 98 11 lv (r.toList ++ st) h' Q)) := PW_cs (y := 94) (as := [.long p0, .long p1, .long p2]) (rest := st) rfl rfl rfl rfl rfl ⟨Nat.le_of_ble_eq_true rfl, Nat.le_of_ble_eq_true rfl, Nat.le_of_ble_eq_true rfl⟩
theorem u_98_11 : PW B X 98 11 lv (.int x :: st) h Q ↔ (if x = 0 then PW B X 98 24 lv (st) h Q else PW B X 98 14 lv (st) h Q) := PW_if rfl rfl pm_c_eq
theorem u_98_14 : PW B X 98 14 [some (.ref a), v1] (st) h Q ↔ PW B X 98 15 [some (.ref a), v1] (.ref a :: st) h Q := PW_step rfl rfl rfl rfl
theorem u_98_14n : PW B X 98 14 [some .null, v1] (st) h Q ↔ PW B X 98 15 [some .null, v1] (.null :: st) h Q := PW_step rfl rfl rfl rfl
theorem u_98_15 : PW B X 98 15 lv (.ref a :: st) h Q ↔ pm_O (pm_gf (pm_at B h a) 10 7) (fun v => PW B X 98 18 lv (v :: st) h Q) := PW_getf rfl rfl
theorem u_98_18 : PW B X 98 18 lv (st) h Q ↔ PW B X 98 21 lv (.int 200 :: st) h Q := PW_step rfl rfl rfl rfl
theorem u_98_21 : PW B X 98 21 lv (.int y :: .int x :: st) h Q ↔ (if ¬ x = y then PW B X 98 26 lv (st) h Q else PW B X 98 24 lv (st) h Q) := PW_icmp rfl rfl pm_c_ne
theorem u_98_24 : PW B X 98 24 lv (st) h Q ↔ PW B X 98 25 lv (.int 0 :: st) h Q := PW_step rfl rfl rfl rfl
theorem u_98_25 (hx : narrow .boolean (.int x) = .int x) : PW B X 98 25 lv ([.int x]) h Q ↔ Q (some (.int x)) h := PW_bret rfl rfl (by simp) hx
theorem u_98_25_0 : PW B X 98 25 lv ([.int 0]) h Q ↔ Q (some (.int 0)) h := u_98_25 rfl
theorem u_98_25_1 : PW B X 98 25 lv ([.int 1]) h Q ↔ Q (some (.int 1)) h := u_98_25 rfl
theorem u_98_26 : PW B X 98 26 [some (.ref a), v1] (st) h Q ↔ PW B X 98 27 [some (.ref a), v1] (.ref a :: st) h Q := PW_step rfl rfl rfl rfl
theorem u_98_26n : PW B X 98 26 [some .null, v1] (st) h Q ↔ PW B X 98 27 [some .null, v1] (.null :: st) h Q := PW_step rfl rfl rfl rfl
theorem u_98_27 : PW B X 98 27 lv (.ref a :: st) h Q ↔ pm_O (pm_gf (pm_at B h a) 10 6) (fun v => PW B X 98 30 lv (v :: st) h Q) := PW_getf rfl rfl
theorem u_98_30 : PW B X 98 30 [some (.ref a), v1] (st) h Q ↔ PW B X 98 31 [some (.ref a), v1] (.ref a :: st) h Q := PW_step rfl rfl rfl rfl
theorem u_98_30n : PW B X 98 30 [some .null, v1] (st) h Q ↔ PW B X 98 31 [some .null, v1] (.null :: st) h Q := PW_step rfl rfl rfl rfl
theorem u_98_31 : PW B X 98 31 lv (.ref a :: st) h Q ↔ pm_O (pm_gf (pm_at B h a) 10 7) (fun v => PW B X 98 34 lv (v :: st) h Q) := PW_getf rfl rfl
theorem u_98_34 : PW B X 98 34 [v0, some (.int x)] (st) h Q ↔ PW B X 98 35 [v0, some (.int x)] (.int x :: st) h Q := PW_step rfl rfl rfl rfl
theorem u_98_35 : PW B X 98 35 lv (.int y :: .int x :: .ref a :: st) h Q ↔ pm_O (pm_sti 0 (pm_at B h a) x y) (fun e => PW B X 98 36 lv (st) (pm_set B h a e) Q) := PW_iast rfl
theorem u_98_36 : PW B X 98 36 [some (.ref a), v1] (st) h Q ↔ PW B X 98 37 [some (.ref a), v1] (.ref a :: st) h Q := PW_step rfl rfl rfl rfl
theorem u_98_36n : PW B X 98 36 [some .null, v1] (st) h Q ↔ PW B X 98 37 [some .null, v1] (.null :: st) h Q := PW_step rfl rfl rfl rfl
theorem u_98_37 : PW B X 98 37 lv (.ref a :: st) h Q ↔ PW B X 98 38 lv (.ref a :: .ref a :: st) h Q := PW_step rfl rfl rfl rfl
theorem u_98_37i : PW B X 98 37 lv (.int x :: st) h Q ↔ PW B X 98 38 lv (.int x :: .int x :: st) h Q := PW_step rfl rfl rfl rfl
theorem u_98_38 : PW B X 98 38 lv (.ref a :: st) h Q ↔ pm_O (pm_gf (pm_at B h a) 10 7) (fun v => PW B X 98 41 lv (v :: st) h Q) := PW_getf rfl rfl
theorem u_98_41 : PW B X 98 41 lv (st) h Q ↔ PW B X 98 42 lv (.int 1 :: st) h Q := PW_step rfl rfl rfl rfl
theorem u_98_42 : PW B X 98 42 lv (.int y :: .int x :: st) h Q ↔ PW B X 98 43 lv (.int (x + y) :: st) h Q := PW_step rfl rfl rfl rfl
theorem u_98_43 : PW B X 98 43 lv (v :: .ref a :: st) h Q ↔ pm_O (pm_pf (pm_at B h a) 10 7 v) (fun e => PW B X 98 46 lv (st) (pm_set B h a e) Q) := PW_putf rfl rfl
theorem u_98_46 : PW B X 98 46 lv (st) h Q ↔ PW B X 98 47 lv (.int 1 :: st) h Q := PW_step rfl rfl rfl rfl
theorem u_98_47 (hx : narrow .boolean (.int x) = .int x) : PW B X 98 47 lv ([.int x]) h Q ↔ Q (some (.int x)) h := PW_bret rfl rfl (by simp) hx
theorem u_98_47_0 : PW B X 98 47 lv ([.int 0]) h Q ↔ Q (some (.int 0)) h := u_98_47 rfl
theorem u_98_47_1 : PW B X 98 47 lv ([.int 1]) h Q ↔ Q (some (.int 1)) h := u_98_47 rfl
-- 99 Ref_rules
theorem u_99_0 : PW B X 99 0 [some (.ref a), v1, v2] (st) h Q ↔ PW B X 99 1 [some (.ref a), v1, v2] (.ref a :: st) h Q := PW_step rfl rfl rfl rfl
theorem u_99_0n : PW B X 99 0 [some .null, v1, v2] (st) h Q ↔ PW B X 99 1 [some .null, v1, v2] (.null :: st) h Q := PW_step rfl rfl rfl rfl
theorem u_99_1 : PW B X 99 1 lv (st) h Q ↔ PW B X 99 2 lv (.int 0 :: st) h Q := PW_step rfl rfl rfl rfl
theorem u_99_2 : PW B X 99 2 lv (v :: .ref a :: st) h Q ↔ pm_O (pm_pf (pm_at B h a) 10 8 v) (fun e => PW B X 99 5 lv (st) (pm_set B h a e) Q) := PW_putf rfl rfl
theorem u_99_5 : PW B X 99 5 [some (.ref a), v1, v2] (st) h Q ↔ PW B X 99 6 [some (.ref a), v1, v2] (.ref a :: st) h Q := PW_step rfl rfl rfl rfl
theorem u_99_5n : PW B X 99 5 [some .null, v1, v2] (st) h Q ↔ PW B X 99 6 [some .null, v1, v2] (.null :: st) h Q := PW_step rfl rfl rfl rfl
theorem u_99_6 : PW B X 99 6 lv (st) h Q ↔ PW B X 99 7 lv (.int (-1) :: st) h Q := PW_step rfl rfl rfl rfl
theorem u_99_7 : PW B X 99 7 lv (v :: .ref a :: st) h Q ↔ pm_O (pm_pf (pm_at B h a) 10 9 v) (fun e => PW B X 99 10 lv (st) (pm_set B h a e) Q) := PW_putf rfl rfl
theorem u_99_10 : PW B X 99 10 [some (.ref a), v1, v2] (st) h Q ↔ PW B X 99 11 [some (.ref a), v1, v2] (.ref a :: st) h Q := PW_step rfl rfl rfl rfl
theorem u_99_10n : PW B X 99 10 [some .null, v1, v2] (st) h Q ↔ PW B X 99 11 [some .null, v1, v2] (.null :: st) h Q := PW_step rfl rfl rfl rfl
theorem u_99_11 : PW B X 99 11 lv (st) h Q ↔ PW B X 99 12 lv (.int 0 :: st) h Q := PW_step rfl rfl rfl rfl
theorem u_99_12 : PW B X 99 12 lv (v :: .ref a :: st) h Q ↔ pm_O (pm_pf (pm_at B h a) 10 13 v) (fun e => PW B X 99 15 lv (st) (pm_set B h a e) Q) := PW_putf rfl rfl
theorem u_99_15 : PW B X 99 15 lv (st) h Q ↔ PW B X 99 16 lv (.int 1 :: st) h Q := PW_step rfl rfl rfl rfl
theorem u_99_16 : PW B X 99 16 [v0, v1, v2] (.int x :: st) h Q ↔ PW B X 99 17 [pm_c v0, some (.int x), v2] (st) h Q := PW_step rfl rfl rfl rfl
theorem u_99_17 : PW B X 99 17 [v0, some (.int x), v2] (st) h Q ↔ PW B X 99 18 [v0, some (.int x), v2] (.int x :: st) h Q := PW_step rfl rfl rfl rfl
theorem u_99_18 : PW B X 99 18 lv (.int x :: st) h Q ↔ (if x = 0 then PW B X 99 64 lv (st) h Q else PW B X 99 21 lv (st) h Q) := PW_if rfl rfl pm_c_eq
theorem u_99_21 : PW B X 99 21 [some (.ref a), v1, v2] (st) h Q ↔ PW B X 99 22 [some (.ref a), v1, v2] (.ref a :: st) h Q := PW_step rfl rfl rfl rfl
theorem u_99_21n : PW B X 99 21 [some .null, v1, v2] (st) h Q ↔ PW B X 99 22 [some .null, v1, v2] (.null :: st) h Q := PW_step rfl rfl rfl rfl
theorem u_99_22 : PW B X 99 22 lv (.ref a :: st) h Q ↔ (pm_w st ≤ 8 ∧ pm_io B h a 10 = true ∧ PW B X 100 0 [some (.ref a), none] [] h (fun r h' => PW B X 99 25 lv (r.toList ++ st) h' Q)) := PW_cv (y := 100) (as := []) (rest := st) rfl rfl rfl rfl rfl ⟨Nat.le_of_ble_eq_true rfl, Nat.le_of_ble_eq_true rfl, Nat.le_of_ble_eq_true rfl⟩
theorem u_99_25 : PW B X 99 25 [some (.ref a), v1, v2] (st) h Q ↔ PW B X 99 26 [some (.ref a), v1, v2] (.ref a :: st) h Q := PW_step rfl rfl rfl rfl
theorem u_99_25n : PW B X 99 25 [some .null, v1, v2] (st) h Q ↔ PW B X 99 26 [some .null, v1, v2] (.null :: st) h Q := PW_step rfl rfl rfl rfl
theorem u_99_26 : PW B X 99 26 lv (.ref a :: st) h Q ↔ pm_O (pm_gf (pm_at B h a) 10 9) (fun v => PW B X 99 29 lv (v :: st) h Q) := PW_getf rfl rfl
theorem u_99_29 : PW B X 99 29 lv (.int x :: st) h Q ↔ (if 0 ≤ x then PW B X 99 45 lv (st) h Q else PW B X 99 32 lv (st) h Q) := PW_if rfl rfl pm_c_ge
theorem u_99_32 : PW B X 99 32 [some (.ref a), v1, v2] (st) h Q ↔ PW B X 99 33 [some (.ref a), v1, v2] (.ref a :: st) h Q := PW_step rfl rfl rfl rfl
theorem u_99_32n : PW B X 99 32 [some .null, v1, v2] (st) h Q ↔ PW B X 99 33 [some .null, v1, v2] (.null :: st) h Q := PW_step rfl rfl rfl rfl
theorem u_99_33 : PW B X 99 33 lv (.ref a :: st) h Q ↔ (pm_w st ≤ 8 ∧ pm_io B h a 10 = true ∧ PW B X 104 0 [some (.ref a)] [] h (fun r h' => PW B X 99 36 lv (r.toList ++ st) h' Q)) := PW_cv (y := 104) (as := []) (rest := st) rfl rfl rfl rfl rfl ⟨Nat.le_of_ble_eq_true rfl, Nat.le_of_ble_eq_true rfl, Nat.le_of_ble_eq_true rfl⟩
theorem u_99_36 : PW B X 99 36 lv (st) h Q ↔ PW B X 99 38 lv (.int 59 :: st) h Q := PW_step rfl rfl rfl rfl
theorem u_99_38 : PW B X 99 38 lv (.int y :: .int x :: st) h Q ↔ (if ¬ x = y then PW B X 99 45 lv (st) h Q else PW B X 99 41 lv (st) h Q) := PW_icmp rfl rfl pm_c_ne
theorem u_99_41 : PW B X 99 41 lv (st) h Q ↔ PW B X 99 42 lv (.int 1 :: st) h Q := PW_step rfl rfl rfl rfl
theorem u_99_42 : PW B X 99 42 lv (st) h Q ↔ PW B X 99 46 lv (st) h Q := PW_step rfl rfl rfl rfl
theorem u_99_45 : PW B X 99 45 lv (st) h Q ↔ PW B X 99 46 lv (.int 0 :: st) h Q := PW_step rfl rfl rfl rfl
theorem u_99_46 : PW B X 99 46 [v0, v1, v2] (.int x :: st) h Q ↔ PW B X 99 47 [pm_c v0, some (.int x), v2] (st) h Q := PW_step rfl rfl rfl rfl
theorem u_99_47 : PW B X 99 47 [v0, some (.int x), v2] (st) h Q ↔ PW B X 99 48 [v0, some (.int x), v2] (.int x :: st) h Q := PW_step rfl rfl rfl rfl
theorem u_99_48 : PW B X 99 48 lv (.int x :: st) h Q ↔ (if x = 0 then PW B X 99 17 lv (st) h Q else PW B X 99 51 lv (st) h Q) := PW_if rfl rfl pm_c_eq
theorem u_99_51 : PW B X 99 51 [some (.ref a), v1, v2] (st) h Q ↔ PW B X 99 52 [some (.ref a), v1, v2] (.ref a :: st) h Q := PW_step rfl rfl rfl rfl
theorem u_99_51n : PW B X 99 51 [some .null, v1, v2] (st) h Q ↔ PW B X 99 52 [some .null, v1, v2] (.null :: st) h Q := PW_step rfl rfl rfl rfl
theorem u_99_52 : PW B X 99 52 lv (.ref a :: st) h Q ↔ PW B X 99 53 lv (.ref a :: .ref a :: st) h Q := PW_step rfl rfl rfl rfl
theorem u_99_52i : PW B X 99 52 lv (.int x :: st) h Q ↔ PW B X 99 53 lv (.int x :: .int x :: st) h Q := PW_step rfl rfl rfl rfl
theorem u_99_53 : PW B X 99 53 lv (.ref a :: st) h Q ↔ pm_O (pm_gf (pm_at B h a) 10 8) (fun v => PW B X 99 56 lv (v :: st) h Q) := PW_getf rfl rfl
theorem u_99_56 : PW B X 99 56 lv (st) h Q ↔ PW B X 99 57 lv (.int 1 :: st) h Q := PW_step rfl rfl rfl rfl
theorem u_99_57 : PW B X 99 57 lv (.int y :: .int x :: st) h Q ↔ PW B X 99 58 lv (.int (x + y) :: st) h Q := PW_step rfl rfl rfl rfl
theorem u_99_58 : PW B X 99 58 lv (v :: .ref a :: st) h Q ↔ pm_O (pm_pf (pm_at B h a) 10 8 v) (fun e => PW B X 99 61 lv (st) (pm_set B h a e) Q) := PW_putf rfl rfl
theorem u_99_61 : PW B X 99 61 lv (st) h Q ↔ PW B X 99 17 lv (st) h Q := PW_step rfl rfl rfl rfl
theorem u_99_64 : PW B X 99 64 [some (.ref a), v1, v2] (st) h Q ↔ PW B X 99 65 [some (.ref a), v1, v2] (.ref a :: st) h Q := PW_step rfl rfl rfl rfl
theorem u_99_64n : PW B X 99 64 [some .null, v1, v2] (st) h Q ↔ PW B X 99 65 [some .null, v1, v2] (.null :: st) h Q := PW_step rfl rfl rfl rfl
theorem u_99_65 : PW B X 99 65 lv (st) h Q ↔ PW B X 99 66 lv (.int 0 :: st) h Q := PW_step rfl rfl rfl rfl
theorem u_99_66 : PW B X 99 66 lv (v :: .ref a :: st) h Q ↔ pm_O (pm_pf (pm_at B h a) 10 7 v) (fun e => PW B X 99 69 lv (st) (pm_set B h a e) Q) := PW_putf rfl rfl
theorem u_99_69 : PW B X 99 69 [some (.ref a), v1, v2] (st) h Q ↔ PW B X 99 70 [some (.ref a), v1, v2] (.ref a :: st) h Q := PW_step rfl rfl rfl rfl
theorem u_99_69n : PW B X 99 69 [some .null, v1, v2] (st) h Q ↔ PW B X 99 70 [some .null, v1, v2] (.null :: st) h Q := PW_step rfl rfl rfl rfl
theorem u_99_70 : PW B X 99 70 lv (.ref a :: st) h Q ↔ pm_O (pm_gf (pm_at B h a) 10 9) (fun v => PW B X 99 73 lv (v :: st) h Q) := PW_getf rfl rfl
theorem u_99_73 : PW B X 99 73 lv (.int x :: st) h Q ↔ (if x < 0 then PW B X 99 83 lv (st) h Q else PW B X 99 76 lv (st) h Q) := PW_if rfl rfl pm_c_lt
theorem u_99_76 : PW B X 99 76 lv (st) h Q ↔ PW B X 99 77 lv (.int (-1) :: st) h Q := PW_step rfl rfl rfl rfl
theorem u_99_77 : PW B X 99 77 [some (.ref a), v1, v2] (st) h Q ↔ PW B X 99 78 [some (.ref a), v1, v2] (.ref a :: st) h Q := PW_step rfl rfl rfl rfl
theorem u_99_77n : PW B X 99 77 [some .null, v1, v2] (st) h Q ↔ PW B X 99 78 [some .null, v1, v2] (.null :: st) h Q := PW_step rfl rfl rfl rfl
theorem u_99_78 : PW B X 99 78 lv (.ref a :: st) h Q ↔ pm_O (pm_gf (pm_at B h a) 10 9) (fun v => PW B X 99 81 lv (v :: st) h Q) := PW_getf rfl rfl
theorem u_99_81 : PW B X 99 81 lv (.int y :: .int x :: st) h Q ↔ PW B X 99 82 lv (.int (x - y) :: st) h Q := PW_step rfl rfl rfl rfl
theorem u_99_82 : PW B X 99 82 lv ([.int x]) h Q ↔ Q (some (.int x)) h := PW_ret rfl rfl
theorem u_99_83 : PW B X 99 83 [some (.ref a), v1, v2] (st) h Q ↔ PW B X 99 84 [some (.ref a), v1, v2] (.ref a :: st) h Q := PW_step rfl rfl rfl rfl
theorem u_99_83n : PW B X 99 83 [some .null, v1, v2] (st) h Q ↔ PW B X 99 84 [some .null, v1, v2] (.null :: st) h Q := PW_step rfl rfl rfl rfl
theorem u_99_84 : PW B X 99 84 [some (.ref a), v1, v2] (st) h Q ↔ PW B X 99 85 [some (.ref a), v1, v2] (.ref a :: st) h Q := PW_step rfl rfl rfl rfl
theorem u_99_84n : PW B X 99 84 [some .null, v1, v2] (st) h Q ↔ PW B X 99 85 [some .null, v1, v2] (.null :: st) h Q := PW_step rfl rfl rfl rfl
theorem u_99_85 : PW B X 99 85 lv (.ref a :: st) h Q ↔ pm_O (pm_gf (pm_at B h a) 10 13) (fun v => PW B X 99 88 lv (v :: st) h Q) := PW_getf rfl rfl
theorem u_99_88 : PW B X 99 88 lv (v :: .ref a :: st) h Q ↔ pm_O (pm_pf (pm_at B h a) 10 10 v) (fun e => PW B X 99 91 lv (st) (pm_set B h a e) Q) := PW_putf rfl rfl
theorem u_99_91 : PW B X 99 91 lv (st) h Q ↔ PW B X 99 92 lv (.int 0 :: st) h Q := PW_step rfl rfl rfl rfl
theorem u_99_92 : PW B X 99 92 [v0, v1, v2] (.int x :: st) h Q ↔ PW B X 99 93 [v0, pm_c v1, some (.int x)] (st) h Q := PW_step rfl rfl rfl rfl
theorem u_99_93 : PW B X 99 93 [v0, v1, some (.int x)] (st) h Q ↔ PW B X 99 94 [v0, v1, some (.int x)] (.int x :: st) h Q := PW_step rfl rfl rfl rfl
theorem u_99_94 : PW B X 99 94 lv (st) h Q ↔ PW B X 99 96 lv (.int 8 :: st) h Q := PW_step rfl rfl rfl rfl
theorem u_99_96 : PW B X 99 96 lv (.int y :: .int x :: st) h Q ↔ (if y ≤ x then PW B X 99 117 lv (st) h Q else PW B X 99 99 lv (st) h Q) := PW_icmp rfl rfl pm_c_ge
theorem u_99_99 : PW B X 99 99 [some (.ref a), v1, v2] (st) h Q ↔ PW B X 99 100 [some (.ref a), v1, v2] (.ref a :: st) h Q := PW_step rfl rfl rfl rfl
theorem u_99_99n : PW B X 99 99 [some .null, v1, v2] (st) h Q ↔ PW B X 99 100 [some .null, v1, v2] (.null :: st) h Q := PW_step rfl rfl rfl rfl
theorem u_99_100 : PW B X 99 100 lv (.ref a :: st) h Q ↔ pm_O (pm_gf (pm_at B h a) 10 11) (fun v => PW B X 99 103 lv (v :: st) h Q) := PW_getf rfl rfl
theorem u_99_103 : PW B X 99 103 [v0, v1, some (.int x)] (st) h Q ↔ PW B X 99 104 [v0, v1, some (.int x)] (.int x :: st) h Q := PW_step rfl rfl rfl rfl
theorem u_99_104 : PW B X 99 104 [some (.ref a), v1, v2] (st) h Q ↔ PW B X 99 105 [some (.ref a), v1, v2] (.ref a :: st) h Q := PW_step rfl rfl rfl rfl
theorem u_99_104n : PW B X 99 104 [some .null, v1, v2] (st) h Q ↔ PW B X 99 105 [some .null, v1, v2] (.null :: st) h Q := PW_step rfl rfl rfl rfl
theorem u_99_105 : PW B X 99 105 lv (.ref a :: st) h Q ↔ pm_O (pm_gf (pm_at B h a) 10 14) (fun v => PW B X 99 108 lv (v :: st) h Q) := PW_getf rfl rfl
theorem u_99_108 : PW B X 99 108 [v0, v1, some (.int x)] (st) h Q ↔ PW B X 99 109 [v0, v1, some (.int x)] (.int x :: st) h Q := PW_step rfl rfl rfl rfl
theorem u_99_109 : PW B X 99 109 lv (.int x :: .ref a :: st) h Q ↔ pm_O (pm_ldi 0 (pm_at B h a) x) (fun v => PW B X 99 110 lv (v :: st) h Q) := PW_iald rfl rfl
theorem u_99_110 : PW B X 99 110 lv (.int y :: .int x :: .ref a :: st) h Q ↔ pm_O (pm_sti 0 (pm_at B h a) x y) (fun e => PW B X 99 111 lv (st) (pm_set B h a e) Q) := PW_iast rfl
theorem u_99_111 : PW B X 99 111 [v0, v1, some (.int x)] (st) h Q ↔ PW B X 99 114 [v0, pm_c v1, some (.int (x + 1))] (st) h Q := PW_step rfl rfl rfl rfl
theorem u_99_114 : PW B X 99 114 lv (st) h Q ↔ PW B X 99 93 lv (st) h Q := PW_step rfl rfl rfl rfl
theorem u_99_117 : PW B X 99 117 lv (st) h Q ↔ PW B X 99 118 lv (.int 0 :: st) h Q := PW_step rfl rfl rfl rfl
theorem u_99_118 : PW B X 99 118 [v0, v1, v2] (.int x :: st) h Q ↔ PW B X 99 119 [v0, pm_c v1, some (.int x)] (st) h Q := PW_step rfl rfl rfl rfl
theorem u_99_119 : PW B X 99 119 [v0, v1, some (.int x)] (st) h Q ↔ PW B X 99 120 [v0, v1, some (.int x)] (.int x :: st) h Q := PW_step rfl rfl rfl rfl
theorem u_99_120 : PW B X 99 120 lv (st) h Q ↔ PW B X 99 123 lv (.int 192 :: st) h Q := PW_step rfl rfl rfl rfl
theorem u_99_123 : PW B X 99 123 lv (.int y :: .int x :: st) h Q ↔ (if y ≤ x then PW B X 99 144 lv (st) h Q else PW B X 99 126 lv (st) h Q) := PW_icmp rfl rfl pm_c_ge
theorem u_99_126 : PW B X 99 126 [some (.ref a), v1, v2] (st) h Q ↔ PW B X 99 127 [some (.ref a), v1, v2] (.ref a :: st) h Q := PW_step rfl rfl rfl rfl
theorem u_99_126n : PW B X 99 126 [some .null, v1, v2] (st) h Q ↔ PW B X 99 127 [some .null, v1, v2] (.null :: st) h Q := PW_step rfl rfl rfl rfl
theorem u_99_127 : PW B X 99 127 lv (.ref a :: st) h Q ↔ pm_O (pm_gf (pm_at B h a) 10 12) (fun v => PW B X 99 130 lv (v :: st) h Q) := PW_getf rfl rfl
theorem u_99_130 : PW B X 99 130 [v0, v1, some (.int x)] (st) h Q ↔ PW B X 99 131 [v0, v1, some (.int x)] (.int x :: st) h Q := PW_step rfl rfl rfl rfl
theorem u_99_131 : PW B X 99 131 [some (.ref a), v1, v2] (st) h Q ↔ PW B X 99 132 [some (.ref a), v1, v2] (.ref a :: st) h Q := PW_step rfl rfl rfl rfl
theorem u_99_131n : PW B X 99 131 [some .null, v1, v2] (st) h Q ↔ PW B X 99 132 [some .null, v1, v2] (.null :: st) h Q := PW_step rfl rfl rfl rfl
theorem u_99_132 : PW B X 99 132 lv (.ref a :: st) h Q ↔ pm_O (pm_gf (pm_at B h a) 10 15) (fun v => PW B X 99 135 lv (v :: st) h Q) := PW_getf rfl rfl
theorem u_99_135 : PW B X 99 135 [v0, v1, some (.int x)] (st) h Q ↔ PW B X 99 136 [v0, v1, some (.int x)] (.int x :: st) h Q := PW_step rfl rfl rfl rfl
theorem u_99_136 : PW B X 99 136 lv (.int x :: .ref a :: st) h Q ↔ pm_O (pm_ldi 0 (pm_at B h a) x) (fun v => PW B X 99 137 lv (v :: st) h Q) := PW_iald rfl rfl
theorem u_99_137 : PW B X 99 137 lv (.int y :: .int x :: .ref a :: st) h Q ↔ pm_O (pm_sti 0 (pm_at B h a) x y) (fun e => PW B X 99 138 lv (st) (pm_set B h a e) Q) := PW_iast rfl
theorem u_99_138 : PW B X 99 138 [v0, v1, some (.int x)] (st) h Q ↔ PW B X 99 141 [v0, pm_c v1, some (.int (x + 1))] (st) h Q := PW_step rfl rfl rfl rfl
theorem u_99_141 : PW B X 99 141 lv (st) h Q ↔ PW B X 99 119 lv (st) h Q := PW_step rfl rfl rfl rfl
theorem u_99_144 : PW B X 99 144 [some (.ref a), v1, v2] (st) h Q ↔ PW B X 99 145 [some (.ref a), v1, v2] (.ref a :: st) h Q := PW_step rfl rfl rfl rfl
theorem u_99_144n : PW B X 99 144 [some .null, v1, v2] (st) h Q ↔ PW B X 99 145 [some .null, v1, v2] (.null :: st) h Q := PW_step rfl rfl rfl rfl
theorem u_99_145 : PW B X 99 145 lv (.ref a :: st) h Q ↔ pm_O (pm_gf (pm_at B h a) 10 10) (fun v => PW B X 99 148 lv (v :: st) h Q) := PW_getf rfl rfl
theorem u_99_148 : PW B X 99 148 lv ([.int x]) h Q ↔ Q (some (.int x)) h := PW_ret rfl rfl
-- 100 Ref_readRule
theorem u_100_0 : PW B X 100 0 [some (.ref a), v1] (st) h Q ↔ PW B X 100 1 [some (.ref a), v1] (.ref a :: st) h Q := PW_step rfl rfl rfl rfl
theorem u_100_0n : PW B X 100 0 [some .null, v1] (st) h Q ↔ PW B X 100 1 [some .null, v1] (.null :: st) h Q := PW_step rfl rfl rfl rfl
theorem u_100_1 : PW B X 100 1 lv (.ref a :: st) h Q ↔ (pm_w st ≤ 8 ∧ pm_io B h a 10 = true ∧ PW B X 101 0 [some (.ref a)] [] h (fun r h' => PW B X 100 4 lv (r.toList ++ st) h' Q)) := PW_cv (y := 101) (as := []) (rest := st) rfl rfl rfl rfl rfl ⟨Nat.le_of_ble_eq_true rfl, Nat.le_of_ble_eq_true rfl, Nat.le_of_ble_eq_true rfl⟩
theorem u_100_4 : PW B X 100 4 [some (.ref a), v1] (st) h Q ↔ PW B X 100 5 [some (.ref a), v1] (.ref a :: st) h Q := PW_step rfl rfl rfl rfl
theorem u_100_4n : PW B X 100 4 [some .null, v1] (st) h Q ↔ PW B X 100 5 [some .null, v1] (.null :: st) h Q := PW_step rfl rfl rfl rfl
theorem u_100_5 : PW B X 100 5 lv (.ref a :: st) h Q ↔ pm_O (pm_gf (pm_at B h a) 10 13) (fun v => PW B X 100 8 lv (v :: st) h Q) := PW_getf rfl rfl
theorem u_100_8 : PW B X 100 8 lv (st) h Q ↔ PW B X 100 10 lv (.int 8 :: st) h Q := PW_step rfl rfl rfl rfl
theorem u_100_10 : PW B X 100 10 lv (.int y :: .int x :: st) h Q ↔ (if ¬ x = y then PW B X 100 22 lv (st) h Q else PW B X 100 13 lv (st) h Q) := PW_icmp rfl rfl pm_c_ne
theorem u_100_13 : PW B X 100 13 [some (.ref a), v1] (st) h Q ↔ PW B X 100 14 [some (.ref a), v1] (.ref a :: st) h Q := PW_step rfl rfl rfl rfl
theorem u_100_13n : PW B X 100 13 [some .null, v1] (st) h Q ↔ PW B X 100 14 [some .null, v1] (.null :: st) h Q := PW_step rfl rfl rfl rfl
theorem u_100_14 : PW B X 100 14 [some (.ref a), v1] (st) h Q ↔ PW B X 100 15 [some (.ref a), v1] (.ref a :: st) h Q := PW_step rfl rfl rfl rfl
theorem u_100_14n : PW B X 100 14 [some .null, v1] (st) h Q ↔ PW B X 100 15 [some .null, v1] (.null :: st) h Q := PW_step rfl rfl rfl rfl
theorem u_100_15 : PW B X 100 15 lv (.ref a :: st) h Q ↔ pm_O (pm_gf (pm_at B h a) 10 8) (fun v => PW B X 100 18 lv (v :: st) h Q) := PW_getf rfl rfl
theorem u_100_18 : PW B X 100 18 lv (.int q0 :: .ref a :: st) h Q ↔ (pm_w st ≤ 8 ∧ pm_io B h a 10 = true ∧ PW B X 102 0 [some (.ref a), some (.int q0)] [] h (fun r h' => PW B X 100 21 lv (r.toList ++ st) h' Q)) := PW_cv (y := 102) (as := [.int q0]) (rest := st) rfl rfl rfl rfl rfl ⟨Nat.le_of_ble_eq_true rfl, Nat.le_of_ble_eq_true rfl, Nat.le_of_ble_eq_true rfl⟩
theorem u_100_21 : PW B X 100 21 lv ([]) h Q ↔ Q none h := PW_ret rfl rfl
theorem u_100_22 : PW B X 100 22 [some (.ref a), v1] (st) h Q ↔ PW B X 100 23 [some (.ref a), v1] (.ref a :: st) h Q := PW_step rfl rfl rfl rfl
theorem u_100_22n : PW B X 100 22 [some .null, v1] (st) h Q ↔ PW B X 100 23 [some .null, v1] (.null :: st) h Q := PW_step rfl rfl rfl rfl
theorem u_100_23 : PW B X 100 23 lv (.ref a :: st) h Q ↔ pm_O (pm_gf (pm_at B h a) 10 14) (fun v => PW B X 100 26 lv (v :: st) h Q) := PW_getf rfl rfl
theorem u_100_26 : PW B X 100 26 [some (.ref a), v1] (st) h Q ↔ PW B X 100 27 [some (.ref a), v1] (.ref a :: st) h Q := PW_step rfl rfl rfl rfl
theorem u_100_26n : PW B X 100 26 [some .null, v1] (st) h Q ↔ PW B X 100 27 [some .null, v1] (.null :: st) h Q := PW_step rfl rfl rfl rfl
theorem u_100_27 : PW B X 100 27 lv (.ref a :: st) h Q ↔ pm_O (pm_gf (pm_at B h a) 10 13) (fun v => PW B X 100 30 lv (v :: st) h Q) := PW_getf rfl rfl
theorem u_100_30 : PW B X 100 30 lv (st) h Q ↔ PW B X 100 31 lv (.int 0 :: st) h Q := PW_step rfl rfl rfl rfl
theorem u_100_31 : PW B X 100 31 lv (.int y :: .int x :: .ref a :: st) h Q ↔ pm_O (pm_sti 0 (pm_at B h a) x y) (fun e => PW B X 100 32 lv (st) (pm_set B h a e) Q) := PW_iast rfl
theorem u_100_32 : PW B X 100 32 lv (st) h Q ↔ PW B X 100 33 lv (.int 1 :: st) h Q := PW_step rfl rfl rfl rfl
theorem u_100_33 : PW B X 100 33 [v0, v1] (.int x :: st) h Q ↔ PW B X 100 34 [pm_c v0, some (.int x)] (st) h Q := PW_step rfl rfl rfl rfl
theorem u_100_34 : PW B X 100 34 [v0, some (.int x)] (st) h Q ↔ PW B X 100 35 [v0, some (.int x)] (.int x :: st) h Q := PW_step rfl rfl rfl rfl
theorem u_100_35 : PW B X 100 35 lv (.int x :: st) h Q ↔ (if x = 0 then PW B X 100 78 lv (st) h Q else PW B X 100 38 lv (st) h Q) := PW_if rfl rfl pm_c_eq
theorem u_100_38 : PW B X 100 38 [some (.ref a), v1] (st) h Q ↔ PW B X 100 39 [some (.ref a), v1] (.ref a :: st) h Q := PW_step rfl rfl rfl rfl
theorem u_100_38n : PW B X 100 38 [some .null, v1] (st) h Q ↔ PW B X 100 39 [some .null, v1] (.null :: st) h Q := PW_step rfl rfl rfl rfl
theorem u_100_39 : PW B X 100 39 lv (.ref a :: st) h Q ↔ (pm_w st ≤ 8 ∧ pm_io B h a 10 = true ∧ PW B X 103 0 [some (.ref a), none, none] [] h (fun r h' => PW B X 100 42 lv (r.toList ++ st) h' Q)) := PW_cv (y := 103) (as := []) (rest := st) rfl rfl rfl rfl rfl ⟨Nat.le_of_ble_eq_true rfl, Nat.le_of_ble_eq_true rfl, Nat.le_of_ble_eq_true rfl⟩
theorem u_100_42 : PW B X 100 42 [some (.ref a), v1] (st) h Q ↔ PW B X 100 43 [some (.ref a), v1] (.ref a :: st) h Q := PW_step rfl rfl rfl rfl
theorem u_100_42n : PW B X 100 42 [some .null, v1] (st) h Q ↔ PW B X 100 43 [some .null, v1] (.null :: st) h Q := PW_step rfl rfl rfl rfl
theorem u_100_43 : PW B X 100 43 lv (.ref a :: st) h Q ↔ pm_O (pm_gf (pm_at B h a) 10 9) (fun v => PW B X 100 46 lv (v :: st) h Q) := PW_getf rfl rfl
theorem u_100_46 : PW B X 100 46 lv (.int x :: st) h Q ↔ (if 0 ≤ x then PW B X 100 73 lv (st) h Q else PW B X 100 49 lv (st) h Q) := PW_if rfl rfl pm_c_ge
theorem u_100_49 : PW B X 100 49 [some (.ref a), v1] (st) h Q ↔ PW B X 100 50 [some (.ref a), v1] (.ref a :: st) h Q := PW_step rfl rfl rfl rfl
theorem u_100_49n : PW B X 100 49 [some .null, v1] (st) h Q ↔ PW B X 100 50 [some .null, v1] (.null :: st) h Q := PW_step rfl rfl rfl rfl
theorem u_100_50 : PW B X 100 50 lv (.ref a :: st) h Q ↔ pm_O (pm_gf (pm_at B h a) 10 8) (fun v => PW B X 100 53 lv (v :: st) h Q) := PW_getf rfl rfl
theorem u_100_53 : PW B X 100 53 [some (.ref a), v1] (st) h Q ↔ PW B X 100 54 [some (.ref a), v1] (.ref a :: st) h Q := PW_step rfl rfl rfl rfl
theorem u_100_53n : PW B X 100 53 [some .null, v1] (st) h Q ↔ PW B X 100 54 [some .null, v1] (.null :: st) h Q := PW_step rfl rfl rfl rfl
theorem u_100_54 : PW B X 100 54 lv (.ref a :: st) h Q ↔ pm_O (pm_gf (pm_at B h a) 10 7) (fun v => PW B X 100 57 lv (v :: st) h Q) := PW_getf rfl rfl
theorem u_100_57 : PW B X 100 57 lv (.int y :: .int x :: st) h Q ↔ (if y ≤ x then PW B X 100 73 lv (st) h Q else PW B X 100 60 lv (st) h Q) := PW_icmp rfl rfl pm_c_ge
theorem u_100_60 : PW B X 100 60 [some (.ref a), v1] (st) h Q ↔ PW B X 100 61 [some (.ref a), v1] (.ref a :: st) h Q := PW_step rfl rfl rfl rfl
theorem u_100_60n : PW B X 100 60 [some .null, v1] (st) h Q ↔ PW B X 100 61 [some .null, v1] (.null :: st) h Q := PW_step rfl rfl rfl rfl
theorem u_100_61 : PW B X 100 61 lv (.ref a :: st) h Q ↔ (pm_w st ≤ 8 ∧ pm_io B h a 10 = true ∧ PW B X 104 0 [some (.ref a)] [] h (fun r h' => PW B X 100 64 lv (r.toList ++ st) h' Q)) := PW_cv (y := 104) (as := []) (rest := st) rfl rfl rfl rfl rfl ⟨Nat.le_of_ble_eq_true rfl, Nat.le_of_ble_eq_true rfl, Nat.le_of_ble_eq_true rfl⟩
theorem u_100_64 : PW B X 100 64 lv (st) h Q ↔ PW B X 100 66 lv (.int 59 :: st) h Q := PW_step rfl rfl rfl rfl
theorem u_100_66 : PW B X 100 66 lv (.int y :: .int x :: st) h Q ↔ (if x = y then PW B X 100 73 lv (st) h Q else PW B X 100 69 lv (st) h Q) := PW_icmp rfl rfl pm_c_eq
theorem u_100_69 : PW B X 100 69 lv (st) h Q ↔ PW B X 100 70 lv (.int 1 :: st) h Q := PW_step rfl rfl rfl rfl
theorem u_100_70 : PW B X 100 70 lv (st) h Q ↔ PW B X 100 74 lv (st) h Q := PW_step rfl rfl rfl rfl
theorem u_100_73 : PW B X 100 73 lv (st) h Q ↔ PW B X 100 74 lv (.int 0 :: st) h Q := PW_step rfl rfl rfl rfl
theorem u_100_74 : PW B X 100 74 [v0, v1] (.int x :: st) h Q ↔ PW B X 100 75 [pm_c v0, some (.int x)] (st) h Q := PW_step rfl rfl rfl rfl
theorem u_100_75 : PW B X 100 75 lv (st) h Q ↔ PW B X 100 34 lv (st) h Q := PW_step rfl rfl rfl rfl
theorem u_100_78 : PW B X 100 78 [some (.ref a), v1] (st) h Q ↔ PW B X 100 79 [some (.ref a), v1] (.ref a :: st) h Q := PW_step rfl rfl rfl rfl
theorem u_100_78n : PW B X 100 78 [some .null, v1] (st) h Q ↔ PW B X 100 79 [some .null, v1] (.null :: st) h Q := PW_step rfl rfl rfl rfl
theorem u_100_79 : PW B X 100 79 lv (.ref a :: st) h Q ↔ PW B X 100 80 lv (.ref a :: .ref a :: st) h Q := PW_step rfl rfl rfl rfl
theorem u_100_79i : PW B X 100 79 lv (.int x :: st) h Q ↔ PW B X 100 80 lv (.int x :: .int x :: st) h Q := PW_step rfl rfl rfl rfl
theorem u_100_80 : PW B X 100 80 lv (.ref a :: st) h Q ↔ pm_O (pm_gf (pm_at B h a) 10 13) (fun v => PW B X 100 83 lv (v :: st) h Q) := PW_getf rfl rfl
theorem u_100_83 : PW B X 100 83 lv (st) h Q ↔ PW B X 100 84 lv (.int 1 :: st) h Q := PW_step rfl rfl rfl rfl
theorem u_100_84 : PW B X 100 84 lv (.int y :: .int x :: st) h Q ↔ PW B X 100 85 lv (.int (x + y) :: st) h Q := PW_step rfl rfl rfl rfl
theorem u_100_85 : PW B X 100 85 lv (v :: .ref a :: st) h Q ↔ pm_O (pm_pf (pm_at B h a) 10 13 v) (fun e => PW B X 100 88 lv (st) (pm_set B h a e) Q) := PW_putf rfl rfl
theorem u_100_88 : PW B X 100 88 lv ([]) h Q ↔ Q none h := PW_ret rfl rfl
-- 101 Ref_skip
theorem u_101_0 : PW B X 101 0 [some (.ref a)] (st) h Q ↔ PW B X 101 1 [some (.ref a)] (.ref a :: st) h Q := PW_step rfl rfl rfl rfl
theorem u_101_0n : PW B X 101 0 [some .null] (st) h Q ↔ PW B X 101 1 [some .null] (.null :: st) h Q := PW_step rfl rfl rfl rfl
theorem u_101_1 : PW B X 101 1 lv (.ref a :: st) h Q ↔ pm_O (pm_gf (pm_at B h a) 10 8) (fun v => PW B X 101 4 lv (v :: st) h Q) := PW_getf rfl rfl
theorem u_101_4 : PW B X 101 4 [some (.ref a)] (st) h Q ↔ PW B X 101 5 [some (.ref a)] (.ref a :: st) h Q := PW_step rfl rfl rfl rfl
theorem u_101_4n : PW B X 101 4 [some .null] (st) h Q ↔ PW B X 101 5 [some .null] (.null :: st) h Q := PW_step rfl rfl rfl rfl
theorem u_101_5 : PW B X 101 5 lv (.ref a :: st) h Q ↔ pm_O (pm_gf (pm_at B h a) 10 7) (fun v => PW B X 101 8 lv (v :: st) h Q) := PW_getf rfl rfl
theorem u_101_8 : PW B X 101 8 lv (.int y :: .int x :: st) h Q ↔ (if y ≤ x then PW B X 101 38 lv (st) h Q else PW B X 101 11 lv (st) h Q) := PW_icmp rfl rfl pm_c_ge
theorem u_101_11 : PW B X 101 11 [some (.ref a)] (st) h Q ↔ PW B X 101 12 [some (.ref a)] (.ref a :: st) h Q := PW_step rfl rfl rfl rfl
theorem u_101_11n : PW B X 101 11 [some .null] (st) h Q ↔ PW B X 101 12 [some .null] (.null :: st) h Q := PW_step rfl rfl rfl rfl
theorem u_101_12 : PW B X 101 12 lv (.ref a :: st) h Q ↔ pm_O (pm_gf (pm_at B h a) 10 6) (fun v => PW B X 101 15 lv (v :: st) h Q) := PW_getf rfl rfl
theorem u_101_15 : PW B X 101 15 [some (.ref a)] (st) h Q ↔ PW B X 101 16 [some (.ref a)] (.ref a :: st) h Q := PW_step rfl rfl rfl rfl
theorem u_101_15n : PW B X 101 15 [some .null] (st) h Q ↔ PW B X 101 16 [some .null] (.null :: st) h Q := PW_step rfl rfl rfl rfl
theorem u_101_16 : PW B X 101 16 lv (.ref a :: st) h Q ↔ pm_O (pm_gf (pm_at B h a) 10 8) (fun v => PW B X 101 19 lv (v :: st) h Q) := PW_getf rfl rfl
theorem u_101_19 : PW B X 101 19 lv (.int x :: .ref a :: st) h Q ↔ pm_O (pm_ldi 0 (pm_at B h a) x) (fun v => PW B X 101 20 lv (v :: st) h Q) := PW_iald rfl rfl
theorem u_101_20 : PW B X 101 20 lv (st) h Q ↔ PW B X 101 22 lv (.int 32 :: st) h Q := PW_step rfl rfl rfl rfl
theorem u_101_22 : PW B X 101 22 lv (.int y :: .int x :: st) h Q ↔ (if ¬ x = y then PW B X 101 38 lv (st) h Q else PW B X 101 25 lv (st) h Q) := PW_icmp rfl rfl pm_c_ne
theorem u_101_25 : PW B X 101 25 [some (.ref a)] (st) h Q ↔ PW B X 101 26 [some (.ref a)] (.ref a :: st) h Q := PW_step rfl rfl rfl rfl
theorem u_101_25n : PW B X 101 25 [some .null] (st) h Q ↔ PW B X 101 26 [some .null] (.null :: st) h Q := PW_step rfl rfl rfl rfl
theorem u_101_26 : PW B X 101 26 lv (.ref a :: st) h Q ↔ PW B X 101 27 lv (.ref a :: .ref a :: st) h Q := PW_step rfl rfl rfl rfl
theorem u_101_26i : PW B X 101 26 lv (.int x :: st) h Q ↔ PW B X 101 27 lv (.int x :: .int x :: st) h Q := PW_step rfl rfl rfl rfl
theorem u_101_27 : PW B X 101 27 lv (.ref a :: st) h Q ↔ pm_O (pm_gf (pm_at B h a) 10 8) (fun v => PW B X 101 30 lv (v :: st) h Q) := PW_getf rfl rfl
theorem u_101_30 : PW B X 101 30 lv (st) h Q ↔ PW B X 101 31 lv (.int 1 :: st) h Q := PW_step rfl rfl rfl rfl
theorem u_101_31 : PW B X 101 31 lv (.int y :: .int x :: st) h Q ↔ PW B X 101 32 lv (.int (x + y) :: st) h Q := PW_step rfl rfl rfl rfl
theorem u_101_32 : PW B X 101 32 lv (v :: .ref a :: st) h Q ↔ pm_O (pm_pf (pm_at B h a) 10 8 v) (fun e => PW B X 101 35 lv (st) (pm_set B h a e) Q) := PW_putf rfl rfl
theorem u_101_35 : PW B X 101 35 lv (st) h Q ↔ PW B X 101 0 lv (st) h Q := PW_step rfl rfl rfl rfl
theorem u_101_38 : PW B X 101 38 lv ([]) h Q ↔ Q none h := PW_ret rfl rfl
-- 102 Ref_mark
theorem u_102_0 : PW B X 102 0 [some (.ref a), v1] (st) h Q ↔ PW B X 102 1 [some (.ref a), v1] (.ref a :: st) h Q := PW_step rfl rfl rfl rfl
theorem u_102_0n : PW B X 102 0 [some .null, v1] (st) h Q ↔ PW B X 102 1 [some .null, v1] (.null :: st) h Q := PW_step rfl rfl rfl rfl
theorem u_102_1 : PW B X 102 1 [some (.ref a), v1] (st) h Q ↔ PW B X 102 2 [some (.ref a), v1] (.ref a :: st) h Q := PW_step rfl rfl rfl rfl
theorem u_102_1n : PW B X 102 1 [some .null, v1] (st) h Q ↔ PW B X 102 2 [some .null, v1] (.null :: st) h Q := PW_step rfl rfl rfl rfl
theorem u_102_2 : PW B X 102 2 lv (.ref a :: st) h Q ↔ pm_O (pm_gf (pm_at B h a) 10 9) (fun v => PW B X 102 5 lv (v :: st) h Q) := PW_getf rfl rfl
theorem u_102_5 : PW B X 102 5 lv (.int x :: st) h Q ↔ (if 0 ≤ x then PW B X 102 12 lv (st) h Q else PW B X 102 8 lv (st) h Q) := PW_if rfl rfl pm_c_ge
theorem u_102_8 : PW B X 102 8 [v0, some (.int x)] (st) h Q ↔ PW B X 102 9 [v0, some (.int x)] (.int x :: st) h Q := PW_step rfl rfl rfl rfl
theorem u_102_9 : PW B X 102 9 lv (st) h Q ↔ PW B X 102 16 lv (st) h Q := PW_step rfl rfl rfl rfl
theorem u_102_12 : PW B X 102 12 [some (.ref a), v1] (st) h Q ↔ PW B X 102 13 [some (.ref a), v1] (.ref a :: st) h Q := PW_step rfl rfl rfl rfl
theorem u_102_12n : PW B X 102 12 [some .null, v1] (st) h Q ↔ PW B X 102 13 [some .null, v1] (.null :: st) h Q := PW_step rfl rfl rfl rfl
theorem u_102_13 : PW B X 102 13 lv (.ref a :: st) h Q ↔ pm_O (pm_gf (pm_at B h a) 10 9) (fun v => PW B X 102 16 lv (v :: st) h Q) := PW_getf rfl rfl
theorem u_102_16 : PW B X 102 16 lv (v :: .ref a :: st) h Q ↔ pm_O (pm_pf (pm_at B h a) 10 9 v) (fun e => PW B X 102 19 lv (st) (pm_set B h a e) Q) := PW_putf rfl rfl
theorem u_102_19 : PW B X 102 19 lv ([]) h Q ↔ Q none h := PW_ret rfl rfl
-- 103 Ref_readTerm
theorem u_103_0 : PW B X 103 0 [some (.ref a), v1, v2] (st) h Q ↔ PW B X 103 1 [some (.ref a), v1, v2] (.ref a :: st) h Q := PW_step rfl rfl rfl rfl
theorem u_103_0n : PW B X 103 0 [some .null, v1, v2] (st) h Q ↔ PW B X 103 1 [some .null, v1, v2] (.null :: st) h Q := PW_step rfl rfl rfl rfl
theorem u_103_1 : PW B X 103 1 lv (.ref a :: st) h Q ↔ (pm_w st ≤ 8 ∧ pm_io B h a 10 = true ∧ PW B X 101 0 [some (.ref a)] [] h (fun r h' => PW B X 103 4 lv (r.toList ++ st) h' Q)) := PW_cv (y := 101) (as := []) (rest := st) rfl rfl rfl rfl rfl ⟨Nat.le_of_ble_eq_true rfl, Nat.le_of_ble_eq_true rfl, Nat.le_of_ble_eq_true rfl⟩
theorem u_103_4 : PW B X 103 4 [some (.ref a), v1, v2] (st) h Q ↔ PW B X 103 5 [some (.ref a), v1, v2] (.ref a :: st) h Q := PW_step rfl rfl rfl rfl
theorem u_103_4n : PW B X 103 4 [some .null, v1, v2] (st) h Q ↔ PW B X 103 5 [some .null, v1, v2] (.null :: st) h Q := PW_step rfl rfl rfl rfl
theorem u_103_5 : PW B X 103 5 lv (.ref a :: st) h Q ↔ (pm_w st ≤ 8 ∧ pm_io B h a 10 = true ∧ PW B X 104 0 [some (.ref a)] [] h (fun r h' => PW B X 103 8 lv (r.toList ++ st) h' Q)) := PW_cv (y := 104) (as := []) (rest := st) rfl rfl rfl rfl rfl ⟨Nat.le_of_ble_eq_true rfl, Nat.le_of_ble_eq_true rfl, Nat.le_of_ble_eq_true rfl⟩
theorem u_103_8 : PW B X 103 8 [v0, v1, v2] (.int x :: st) h Q ↔ PW B X 103 9 [pm_c v0, some (.int x), v2] (st) h Q := PW_step rfl rfl rfl rfl
theorem u_103_9 : PW B X 103 9 [v0, some (.int x), v2] (st) h Q ↔ PW B X 103 10 [v0, some (.int x), v2] (.int x :: st) h Q := PW_step rfl rfl rfl rfl
theorem u_103_10 : PW B X 103 10 lv (st) h Q ↔ PW B X 103 12 lv (.int 43 :: st) h Q := PW_step rfl rfl rfl rfl
theorem u_103_12 : PW B X 103 12 lv (.int y :: .int x :: st) h Q ↔ (if x = y then PW B X 103 27 lv (st) h Q else PW B X 103 15 lv (st) h Q) := PW_icmp rfl rfl pm_c_eq
theorem u_103_15 : PW B X 103 15 [v0, some (.int x), v2] (st) h Q ↔ PW B X 103 16 [v0, some (.int x), v2] (.int x :: st) h Q := PW_step rfl rfl rfl rfl
theorem u_103_16 : PW B X 103 16 lv (st) h Q ↔ PW B X 103 18 lv (.int 45 :: st) h Q := PW_step rfl rfl rfl rfl
theorem u_103_18 : PW B X 103 18 lv (.int y :: .int x :: st) h Q ↔ (if x = y then PW B X 103 27 lv (st) h Q else PW B X 103 21 lv (st) h Q) := PW_icmp rfl rfl pm_c_eq
theorem u_103_21 : PW B X 103 21 [v0, some (.int x), v2] (st) h Q ↔ PW B X 103 22 [v0, some (.int x), v2] (.int x :: st) h Q := PW_step rfl rfl rfl rfl
theorem u_103_22 : PW B X 103 22 lv (st) h Q ↔ PW B X 103 24 lv (.int 42 :: st) h Q := PW_step rfl rfl rfl rfl
theorem u_103_24 : PW B X 103 24 lv (.int y :: .int x :: st) h Q ↔ (if ¬ x = y then PW B X 103 41 lv (st) h Q else PW B X 103 27 lv (st) h Q) := PW_icmp rfl rfl pm_c_ne
theorem u_103_27 : PW B X 103 27 [some (.ref a), v1, v2] (st) h Q ↔ PW B X 103 28 [some (.ref a), v1, v2] (.ref a :: st) h Q := PW_step rfl rfl rfl rfl
theorem u_103_27n : PW B X 103 27 [some .null, v1, v2] (st) h Q ↔ PW B X 103 28 [some .null, v1, v2] (.null :: st) h Q := PW_step rfl rfl rfl rfl
theorem u_103_28 : PW B X 103 28 lv (.ref a :: st) h Q ↔ pm_O (pm_gf (pm_at B h a) 10 14) (fun v => PW B X 103 31 lv (v :: st) h Q) := PW_getf rfl rfl
theorem u_103_31 : PW B X 103 31 [some (.ref a), v1, v2] (st) h Q ↔ PW B X 103 32 [some (.ref a), v1, v2] (.ref a :: st) h Q := PW_step rfl rfl rfl rfl
theorem u_103_31n : PW B X 103 31 [some .null, v1, v2] (st) h Q ↔ PW B X 103 32 [some .null, v1, v2] (.null :: st) h Q := PW_step rfl rfl rfl rfl
theorem u_103_32 : PW B X 103 32 lv (.ref a :: st) h Q ↔ pm_O (pm_gf (pm_at B h a) 10 13) (fun v => PW B X 103 35 lv (v :: st) h Q) := PW_getf rfl rfl
theorem u_103_35 : PW B X 103 35 lv (.int x :: .ref a :: st) h Q ↔ pm_O (pm_ldi 0 (pm_at B h a) x) (fun v => PW B X 103 36 lv (v :: st) h Q) := PW_iald rfl rfl
theorem u_103_36 : PW B X 103 36 lv (st) h Q ↔ PW B X 103 38 lv (.int 6 :: st) h Q := PW_step rfl rfl rfl rfl
theorem u_103_38 : PW B X 103 38 lv (.int y :: .int x :: st) h Q ↔ (if ¬ x = y then PW B X 103 50 lv (st) h Q else PW B X 103 41 lv (st) h Q) := PW_icmp rfl rfl pm_c_ne
theorem u_103_41 : PW B X 103 41 [some (.ref a), v1, v2] (st) h Q ↔ PW B X 103 42 [some (.ref a), v1, v2] (.ref a :: st) h Q := PW_step rfl rfl rfl rfl
theorem u_103_41n : PW B X 103 41 [some .null, v1, v2] (st) h Q ↔ PW B X 103 42 [some .null, v1, v2] (.null :: st) h Q := PW_step rfl rfl rfl rfl
theorem u_103_42 : PW B X 103 42 [some (.ref a), v1, v2] (st) h Q ↔ PW B X 103 43 [some (.ref a), v1, v2] (.ref a :: st) h Q := PW_step rfl rfl rfl rfl
theorem u_103_42n : PW B X 103 42 [some .null, v1, v2] (st) h Q ↔ PW B X 103 43 [some .null, v1, v2] (.null :: st) h Q := PW_step rfl rfl rfl rfl
theorem u_103_43 : PW B X 103 43 lv (.ref a :: st) h Q ↔ pm_O (pm_gf (pm_at B h a) 10 8) (fun v => PW B X 103 46 lv (v :: st) h Q) := PW_getf rfl rfl
theorem u_103_46 : PW B X 103 46 lv (.int q0 :: .ref a :: st) h Q ↔ (pm_w st ≤ 8 ∧ pm_io B h a 10 = true ∧ PW B X 102 0 [some (.ref a), some (.int q0)] [] h (fun r h' => PW B X 103 49 lv (r.toList ++ st) h' Q)) := PW_cv (y := 102) (as := [.int q0]) (rest := st) rfl rfl rfl rfl rfl ⟨Nat.le_of_ble_eq_true rfl, Nat.le_of_ble_eq_true rfl, Nat.le_of_ble_eq_true rfl⟩
theorem u_103_49 : PW B X 103 49 lv ([]) h Q ↔ Q none h := PW_ret rfl rfl
theorem u_103_50 : PW B X 103 50 lv (st) h Q ↔ PW B X 103 51 lv (.int 4 :: st) h Q := PW_step rfl rfl rfl rfl
theorem u_103_51 : PW B X 103 51 lv (st) h Q ↔ PW B X 103 53 lv (.int 6 :: st) h Q := PW_step rfl rfl rfl rfl
theorem u_103_53 : PW B X 103 53 [some (.ref a), v1, v2] (st) h Q ↔ PW B X 103 54 [some (.ref a), v1, v2] (.ref a :: st) h Q := PW_step rfl rfl rfl rfl
theorem u_103_53n : PW B X 103 53 [some .null, v1, v2] (st) h Q ↔ PW B X 103 54 [some .null, v1, v2] (.null :: st) h Q := PW_step rfl rfl rfl rfl
theorem u_103_54 : PW B X 103 54 lv (.ref a :: st) h Q ↔ pm_O (pm_gf (pm_at B h a) 10 13) (fun v => PW B X 103 57 lv (v :: st) h Q) := PW_getf rfl rfl
theorem u_103_57 : PW B X 103 57 lv (.int y :: .int x :: st) h Q ↔ PW B X 103 58 lv (.int (x * y) :: st) h Q := PW_step rfl rfl rfl rfl
theorem u_103_58 : PW B X 103 58 [some (.ref a), v1, v2] (st) h Q ↔ PW B X 103 59 [some (.ref a), v1, v2] (.ref a :: st) h Q := PW_step rfl rfl rfl rfl
theorem u_103_58n : PW B X 103 58 [some .null, v1, v2] (st) h Q ↔ PW B X 103 59 [some .null, v1, v2] (.null :: st) h Q := PW_step rfl rfl rfl rfl
theorem u_103_59 : PW B X 103 59 lv (.ref a :: st) h Q ↔ pm_O (pm_gf (pm_at B h a) 10 14) (fun v => PW B X 103 62 lv (v :: st) h Q) := PW_getf rfl rfl
theorem u_103_62 : PW B X 103 62 [some (.ref a), v1, v2] (st) h Q ↔ PW B X 103 63 [some (.ref a), v1, v2] (.ref a :: st) h Q := PW_step rfl rfl rfl rfl
theorem u_103_62n : PW B X 103 62 [some .null, v1, v2] (st) h Q ↔ PW B X 103 63 [some .null, v1, v2] (.null :: st) h Q := PW_step rfl rfl rfl rfl
theorem u_103_63 : PW B X 103 63 lv (.ref a :: st) h Q ↔ pm_O (pm_gf (pm_at B h a) 10 13) (fun v => PW B X 103 66 lv (v :: st) h Q) := PW_getf rfl rfl
theorem u_103_66 : PW B X 103 66 lv (.int x :: .ref a :: st) h Q ↔ pm_O (pm_ldi 0 (pm_at B h a) x) (fun v => PW B X 103 67 lv (v :: st) h Q) := PW_iald rfl rfl
theorem u_103_67 : PW B X 103 67 lv (.int y :: .int x :: st) h Q ↔ PW B X 103 68 lv (.int (x + y) :: st) h Q := PW_step rfl rfl rfl rfl
theorem u_103_68 : PW B X 103 68 lv (.int y :: .int x :: st) h Q ↔ PW B X 103 69 lv (.int (x * y) :: st) h Q := PW_step rfl rfl rfl rfl
theorem u_103_69 : PW B X 103 69 [v0, v1, v2] (.int x :: st) h Q ↔ PW B X 103 70 [v0, pm_c v1, some (.int x)] (st) h Q := PW_step rfl rfl rfl rfl
theorem u_103_70 : PW B X 103 70 [some (.ref a), v1, v2] (st) h Q ↔ PW B X 103 71 [some (.ref a), v1, v2] (.ref a :: st) h Q := PW_step rfl rfl rfl rfl
theorem u_103_70n : PW B X 103 70 [some .null, v1, v2] (st) h Q ↔ PW B X 103 71 [some .null, v1, v2] (.null :: st) h Q := PW_step rfl rfl rfl rfl
theorem u_103_71 : PW B X 103 71 lv (.ref a :: st) h Q ↔ pm_O (pm_gf (pm_at B h a) 10 15) (fun v => PW B X 103 74 lv (v :: st) h Q) := PW_getf rfl rfl
theorem u_103_74 : PW B X 103 74 [v0, v1, some (.int x)] (st) h Q ↔ PW B X 103 75 [v0, v1, some (.int x)] (.int x :: st) h Q := PW_step rfl rfl rfl rfl
theorem u_103_75 : PW B X 103 75 [v0, some (.int x), v2] (st) h Q ↔ PW B X 103 76 [v0, some (.int x), v2] (.int x :: st) h Q := PW_step rfl rfl rfl rfl
theorem u_103_76 : PW B X 103 76 lv (.int y :: .int x :: .ref a :: st) h Q ↔ pm_O (pm_sti 0 (pm_at B h a) x y) (fun e => PW B X 103 77 lv (st) (pm_set B h a e) Q) := PW_iast rfl
theorem u_103_77 : PW B X 103 77 [some (.ref a), v1, v2] (st) h Q ↔ PW B X 103 78 [some (.ref a), v1, v2] (.ref a :: st) h Q := PW_step rfl rfl rfl rfl
theorem u_103_77n : PW B X 103 77 [some .null, v1, v2] (st) h Q ↔ PW B X 103 78 [some .null, v1, v2] (.null :: st) h Q := PW_step rfl rfl rfl rfl
theorem u_103_78 : PW B X 103 78 lv (.ref a :: st) h Q ↔ pm_O (pm_gf (pm_at B h a) 10 15) (fun v => PW B X 103 81 lv (v :: st) h Q) := PW_getf rfl rfl
theorem u_103_81 : PW B X 103 81 [v0, v1, some (.int x)] (st) h Q ↔ PW B X 103 82 [v0, v1, some (.int x)] (.int x :: st) h Q := PW_step rfl rfl rfl rfl
theorem u_103_82 : PW B X 103 82 lv (st) h Q ↔ PW B X 103 83 lv (.int 1 :: st) h Q := PW_step rfl rfl rfl rfl
theorem u_103_83 : PW B X 103 83 lv (.int y :: .int x :: st) h Q ↔ PW B X 103 84 lv (.int (x + y) :: st) h Q := PW_step rfl rfl rfl rfl
theorem u_103_84 : PW B X 103 84 lv (st) h Q ↔ PW B X 103 85 lv (.int 1 :: st) h Q := PW_step rfl rfl rfl rfl
theorem u_103_85 : PW B X 103 85 lv (.int y :: .int x :: .ref a :: st) h Q ↔ pm_O (pm_sti 0 (pm_at B h a) x y) (fun e => PW B X 103 86 lv (st) (pm_set B h a e) Q) := PW_iast rfl
theorem u_103_86 : PW B X 103 86 [some (.ref a), v1, v2] (st) h Q ↔ PW B X 103 87 [some (.ref a), v1, v2] (.ref a :: st) h Q := PW_step rfl rfl rfl rfl
theorem u_103_86n : PW B X 103 86 [some .null, v1, v2] (st) h Q ↔ PW B X 103 87 [some .null, v1, v2] (.null :: st) h Q := PW_step rfl rfl rfl rfl
theorem u_103_87 : PW B X 103 87 lv (.ref a :: st) h Q ↔ pm_O (pm_gf (pm_at B h a) 10 15) (fun v => PW B X 103 90 lv (v :: st) h Q) := PW_getf rfl rfl
theorem u_103_90 : PW B X 103 90 [v0, v1, some (.int x)] (st) h Q ↔ PW B X 103 91 [v0, v1, some (.int x)] (.int x :: st) h Q := PW_step rfl rfl rfl rfl
theorem u_103_91 : PW B X 103 91 lv (st) h Q ↔ PW B X 103 92 lv (.int 2 :: st) h Q := PW_step rfl rfl rfl rfl
theorem u_103_92 : PW B X 103 92 lv (.int y :: .int x :: st) h Q ↔ PW B X 103 93 lv (.int (x + y) :: st) h Q := PW_step rfl rfl rfl rfl
theorem u_103_93 : PW B X 103 93 lv (st) h Q ↔ PW B X 103 94 lv (.int 1 :: st) h Q := PW_step rfl rfl rfl rfl
theorem u_103_94 : PW B X 103 94 lv (.int y :: .int x :: .ref a :: st) h Q ↔ pm_O (pm_sti 0 (pm_at B h a) x y) (fun e => PW B X 103 95 lv (st) (pm_set B h a e) Q) := PW_iast rfl
theorem u_103_95 : PW B X 103 95 [some (.ref a), v1, v2] (st) h Q ↔ PW B X 103 96 [some (.ref a), v1, v2] (.ref a :: st) h Q := PW_step rfl rfl rfl rfl
theorem u_103_95n : PW B X 103 95 [some .null, v1, v2] (st) h Q ↔ PW B X 103 96 [some .null, v1, v2] (.null :: st) h Q := PW_step rfl rfl rfl rfl
theorem u_103_96 : PW B X 103 96 lv (.ref a :: st) h Q ↔ PW B X 103 97 lv (.ref a :: .ref a :: st) h Q := PW_step rfl rfl rfl rfl
theorem u_103_96i : PW B X 103 96 lv (.int x :: st) h Q ↔ PW B X 103 97 lv (.int x :: .int x :: st) h Q := PW_step rfl rfl rfl rfl
theorem u_103_97 : PW B X 103 97 lv (.ref a :: st) h Q ↔ pm_O (pm_gf (pm_at B h a) 10 8) (fun v => PW B X 103 100 lv (v :: st) h Q) := PW_getf rfl rfl
theorem u_103_100 : PW B X 103 100 lv (st) h Q ↔ PW B X 103 101 lv (.int 1 :: st) h Q := PW_step rfl rfl rfl rfl
theorem u_103_101 : PW B X 103 101 lv (.int y :: .int x :: st) h Q ↔ PW B X 103 102 lv (.int (x + y) :: st) h Q := PW_step rfl rfl rfl rfl
theorem u_103_102 : PW B X 103 102 lv (v :: .ref a :: st) h Q ↔ pm_O (pm_pf (pm_at B h a) 10 8 v) (fun e => PW B X 103 105 lv (st) (pm_set B h a e) Q) := PW_putf rfl rfl
theorem u_103_105 : PW B X 103 105 [some (.ref a), v1, v2] (st) h Q ↔ PW B X 103 106 [some (.ref a), v1, v2] (.ref a :: st) h Q := PW_step rfl rfl rfl rfl
theorem u_103_105n : PW B X 103 105 [some .null, v1, v2] (st) h Q ↔ PW B X 103 106 [some .null, v1, v2] (.null :: st) h Q := PW_step rfl rfl rfl rfl
theorem u_103_106 : PW B X 103 106 lv (.ref a :: st) h Q ↔ (pm_w st ≤ 8 ∧ pm_io B h a 10 = true ∧ PW B X 101 0 [some (.ref a)] [] h (fun r h' => PW B X 103 109 lv (r.toList ++ st) h' Q)) := PW_cv (y := 101) (as := []) (rest := st) rfl rfl rfl rfl rfl ⟨Nat.le_of_ble_eq_true rfl, Nat.le_of_ble_eq_true rfl, Nat.le_of_ble_eq_true rfl⟩
theorem u_103_109 : PW B X 103 109 [some (.ref a), v1, v2] (st) h Q ↔ PW B X 103 110 [some (.ref a), v1, v2] (.ref a :: st) h Q := PW_step rfl rfl rfl rfl
theorem u_103_109n : PW B X 103 109 [some .null, v1, v2] (st) h Q ↔ PW B X 103 110 [some .null, v1, v2] (.null :: st) h Q := PW_step rfl rfl rfl rfl
theorem u_103_110 : PW B X 103 110 lv (.ref a :: st) h Q ↔ (pm_w st ≤ 8 ∧ pm_io B h a 10 = true ∧ PW B X 104 0 [some (.ref a)] [] h (fun r h' => PW B X 103 113 lv (r.toList ++ st) h' Q)) := PW_cv (y := 104) (as := []) (rest := st) rfl rfl rfl rfl rfl ⟨Nat.le_of_ble_eq_true rfl, Nat.le_of_ble_eq_true rfl, Nat.le_of_ble_eq_true rfl⟩
theorem u_103_113 : PW B X 103 113 lv (.int q0 :: st) h Q ↔ (pm_w st ≤ 8 ∧ PW B X 105 0 [some (.int q0)] [] h (fun r h' => PW B X 103 116 lv (r.toList ++ st) h' Q)) := PW_cs (y := 105) (as := [.int q0]) (rest := st) rfl rfl rfl rfl rfl ⟨Nat.le_of_ble_eq_true rfl, Nat.le_of_ble_eq_true rfl, Nat.le_of_ble_eq_true rfl⟩
theorem u_103_116 : PW B X 103 116 lv (.int x :: st) h Q ↔ (if x = 0 then PW B X 103 181 lv (st) h Q else PW B X 103 119 lv (st) h Q) := PW_if rfl rfl pm_c_eq
theorem u_103_119 : PW B X 103 119 [some (.ref a), v1, v2] (st) h Q ↔ PW B X 103 120 [some (.ref a), v1, v2] (.ref a :: st) h Q := PW_step rfl rfl rfl rfl
theorem u_103_119n : PW B X 103 119 [some .null, v1, v2] (st) h Q ↔ PW B X 103 120 [some .null, v1, v2] (.null :: st) h Q := PW_step rfl rfl rfl rfl
theorem u_103_120 : PW B X 103 120 lv (.ref a :: st) h Q ↔ pm_O (pm_gf (pm_at B h a) 10 15) (fun v => PW B X 103 123 lv (v :: st) h Q) := PW_getf rfl rfl
theorem u_103_123 : PW B X 103 123 [v0, v1, some (.int x)] (st) h Q ↔ PW B X 103 124 [v0, v1, some (.int x)] (.int x :: st) h Q := PW_step rfl rfl rfl rfl
theorem u_103_124 : PW B X 103 124 lv (st) h Q ↔ PW B X 103 125 lv (.int 1 :: st) h Q := PW_step rfl rfl rfl rfl
theorem u_103_125 : PW B X 103 125 lv (.int y :: .int x :: st) h Q ↔ PW B X 103 126 lv (.int (x + y) :: st) h Q := PW_step rfl rfl rfl rfl
theorem u_103_126 : PW B X 103 126 [some (.ref a), v1, v2] (st) h Q ↔ PW B X 103 127 [some (.ref a), v1, v2] (.ref a :: st) h Q := PW_step rfl rfl rfl rfl
theorem u_103_126n : PW B X 103 126 [some .null, v1, v2] (st) h Q ↔ PW B X 103 127 [some .null, v1, v2] (.null :: st) h Q := PW_step rfl rfl rfl rfl
theorem u_103_127 : PW B X 103 127 lv (.ref a :: st) h Q ↔ (pm_w st ≤ 8 ∧ pm_io B h a 10 = true ∧ PW B X 106 0 [some (.ref a), none, none] [] h (fun r h' => PW B X 103 130 lv (r.toList ++ st) h' Q)) := PW_cv (y := 106) (as := []) (rest := st) rfl rfl rfl rfl rfl ⟨Nat.le_of_ble_eq_true rfl, Nat.le_of_ble_eq_true rfl, Nat.le_of_ble_eq_true rfl⟩
theorem u_103_130 : PW B X 103 130 lv (.int y :: .int x :: .ref a :: st) h Q ↔ pm_O (pm_sti 0 (pm_at B h a) x y) (fun e => PW B X 103 131 lv (st) (pm_set B h a e) Q) := PW_iast rfl
theorem u_103_131 : PW B X 103 131 [some (.ref a), v1, v2] (st) h Q ↔ PW B X 103 132 [some (.ref a), v1, v2] (.ref a :: st) h Q := PW_step rfl rfl rfl rfl
theorem u_103_131n : PW B X 103 131 [some .null, v1, v2] (st) h Q ↔ PW B X 103 132 [some .null, v1, v2] (.null :: st) h Q := PW_step rfl rfl rfl rfl
theorem u_103_132 : PW B X 103 132 lv (.ref a :: st) h Q ↔ (pm_w st ≤ 8 ∧ pm_io B h a 10 = true ∧ PW B X 101 0 [some (.ref a)] [] h (fun r h' => PW B X 103 135 lv (r.toList ++ st) h' Q)) := PW_cv (y := 101) (as := []) (rest := st) rfl rfl rfl rfl rfl ⟨Nat.le_of_ble_eq_true rfl, Nat.le_of_ble_eq_true rfl, Nat.le_of_ble_eq_true rfl⟩
theorem u_103_135 : PW B X 103 135 [some (.ref a), v1, v2] (st) h Q ↔ PW B X 103 136 [some (.ref a), v1, v2] (.ref a :: st) h Q := PW_step rfl rfl rfl rfl
theorem u_103_135n : PW B X 103 135 [some .null, v1, v2] (st) h Q ↔ PW B X 103 136 [some .null, v1, v2] (.null :: st) h Q := PW_step rfl rfl rfl rfl
theorem u_103_136 : PW B X 103 136 lv (.ref a :: st) h Q ↔ pm_O (pm_gf (pm_at B h a) 10 9) (fun v => PW B X 103 139 lv (v :: st) h Q) := PW_getf rfl rfl
theorem u_103_139 : PW B X 103 139 lv (.int x :: st) h Q ↔ (if 0 ≤ x then PW B X 103 181 lv (st) h Q else PW B X 103 142 lv (st) h Q) := PW_if rfl rfl pm_c_ge
theorem u_103_142 : PW B X 103 142 [some (.ref a), v1, v2] (st) h Q ↔ PW B X 103 143 [some (.ref a), v1, v2] (.ref a :: st) h Q := PW_step rfl rfl rfl rfl
theorem u_103_142n : PW B X 103 142 [some .null, v1, v2] (st) h Q ↔ PW B X 103 143 [some .null, v1, v2] (.null :: st) h Q := PW_step rfl rfl rfl rfl
theorem u_103_143 : PW B X 103 143 lv (.ref a :: st) h Q ↔ (pm_w st ≤ 8 ∧ pm_io B h a 10 = true ∧ PW B X 104 0 [some (.ref a)] [] h (fun r h' => PW B X 103 146 lv (r.toList ++ st) h' Q)) := PW_cv (y := 104) (as := []) (rest := st) rfl rfl rfl rfl rfl ⟨Nat.le_of_ble_eq_true rfl, Nat.le_of_ble_eq_true rfl, Nat.le_of_ble_eq_true rfl⟩
theorem u_103_146 : PW B X 103 146 lv (st) h Q ↔ PW B X 103 148 lv (.int 47 :: st) h Q := PW_step rfl rfl rfl rfl
theorem u_103_148 : PW B X 103 148 lv (.int y :: .int x :: st) h Q ↔ (if ¬ x = y then PW B X 103 181 lv (st) h Q else PW B X 103 151 lv (st) h Q) := PW_icmp rfl rfl pm_c_ne
theorem u_103_151 : PW B X 103 151 [some (.ref a), v1, v2] (st) h Q ↔ PW B X 103 152 [some (.ref a), v1, v2] (.ref a :: st) h Q := PW_step rfl rfl rfl rfl
theorem u_103_151n : PW B X 103 151 [some .null, v1, v2] (st) h Q ↔ PW B X 103 152 [some .null, v1, v2] (.null :: st) h Q := PW_step rfl rfl rfl rfl
theorem u_103_152 : PW B X 103 152 lv (.ref a :: st) h Q ↔ PW B X 103 153 lv (.ref a :: .ref a :: st) h Q := PW_step rfl rfl rfl rfl
theorem u_103_152i : PW B X 103 152 lv (.int x :: st) h Q ↔ PW B X 103 153 lv (.int x :: .int x :: st) h Q := PW_step rfl rfl rfl rfl
theorem u_103_153 : PW B X 103 153 lv (.ref a :: st) h Q ↔ pm_O (pm_gf (pm_at B h a) 10 8) (fun v => PW B X 103 156 lv (v :: st) h Q) := PW_getf rfl rfl
theorem u_103_156 : PW B X 103 156 lv (st) h Q ↔ PW B X 103 157 lv (.int 1 :: st) h Q := PW_step rfl rfl rfl rfl
theorem u_103_157 : PW B X 103 157 lv (.int y :: .int x :: st) h Q ↔ PW B X 103 158 lv (.int (x + y) :: st) h Q := PW_step rfl rfl rfl rfl
theorem u_103_158 : PW B X 103 158 lv (v :: .ref a :: st) h Q ↔ pm_O (pm_pf (pm_at B h a) 10 8 v) (fun e => PW B X 103 161 lv (st) (pm_set B h a e) Q) := PW_putf rfl rfl
theorem u_103_161 : PW B X 103 161 [some (.ref a), v1, v2] (st) h Q ↔ PW B X 103 162 [some (.ref a), v1, v2] (.ref a :: st) h Q := PW_step rfl rfl rfl rfl
theorem u_103_161n : PW B X 103 161 [some .null, v1, v2] (st) h Q ↔ PW B X 103 162 [some .null, v1, v2] (.null :: st) h Q := PW_step rfl rfl rfl rfl
theorem u_103_162 : PW B X 103 162 lv (.ref a :: st) h Q ↔ (pm_w st ≤ 8 ∧ pm_io B h a 10 = true ∧ PW B X 101 0 [some (.ref a)] [] h (fun r h' => PW B X 103 165 lv (r.toList ++ st) h' Q)) := PW_cv (y := 101) (as := []) (rest := st) rfl rfl rfl rfl rfl ⟨Nat.le_of_ble_eq_true rfl, Nat.le_of_ble_eq_true rfl, Nat.le_of_ble_eq_true rfl⟩
theorem u_103_165 : PW B X 103 165 [some (.ref a), v1, v2] (st) h Q ↔ PW B X 103 166 [some (.ref a), v1, v2] (.ref a :: st) h Q := PW_step rfl rfl rfl rfl
theorem u_103_165n : PW B X 103 165 [some .null, v1, v2] (st) h Q ↔ PW B X 103 166 [some .null, v1, v2] (.null :: st) h Q := PW_step rfl rfl rfl rfl
theorem u_103_166 : PW B X 103 166 lv (.ref a :: st) h Q ↔ pm_O (pm_gf (pm_at B h a) 10 15) (fun v => PW B X 103 169 lv (v :: st) h Q) := PW_getf rfl rfl
theorem u_103_169 : PW B X 103 169 [v0, v1, some (.int x)] (st) h Q ↔ PW B X 103 170 [v0, v1, some (.int x)] (.int x :: st) h Q := PW_step rfl rfl rfl rfl
theorem u_103_170 : PW B X 103 170 lv (st) h Q ↔ PW B X 103 171 lv (.int 2 :: st) h Q := PW_step rfl rfl rfl rfl
theorem u_103_171 : PW B X 103 171 lv (.int y :: .int x :: st) h Q ↔ PW B X 103 172 lv (.int (x + y) :: st) h Q := PW_step rfl rfl rfl rfl
theorem u_103_172 : PW B X 103 172 [some (.ref a), v1, v2] (st) h Q ↔ PW B X 103 173 [some (.ref a), v1, v2] (.ref a :: st) h Q := PW_step rfl rfl rfl rfl
theorem u_103_172n : PW B X 103 172 [some .null, v1, v2] (st) h Q ↔ PW B X 103 173 [some .null, v1, v2] (.null :: st) h Q := PW_step rfl rfl rfl rfl
theorem u_103_173 : PW B X 103 173 lv (.ref a :: st) h Q ↔ (pm_w st ≤ 8 ∧ pm_io B h a 10 = true ∧ PW B X 106 0 [some (.ref a), none, none] [] h (fun r h' => PW B X 103 176 lv (r.toList ++ st) h' Q)) := PW_cv (y := 106) (as := []) (rest := st) rfl rfl rfl rfl rfl ⟨Nat.le_of_ble_eq_true rfl, Nat.le_of_ble_eq_true rfl, Nat.le_of_ble_eq_true rfl⟩
theorem u_103_176 : PW B X 103 176 lv (.int y :: .int x :: .ref a :: st) h Q ↔ pm_O (pm_sti 0 (pm_at B h a) x y) (fun e => PW B X 103 177 lv (st) (pm_set B h a e) Q) := PW_iast rfl
theorem u_103_177 : PW B X 103 177 [some (.ref a), v1, v2] (st) h Q ↔ PW B X 103 178 [some (.ref a), v1, v2] (.ref a :: st) h Q := PW_step rfl rfl rfl rfl
theorem u_103_177n : PW B X 103 177 [some .null, v1, v2] (st) h Q ↔ PW B X 103 178 [some .null, v1, v2] (.null :: st) h Q := PW_step rfl rfl rfl rfl
theorem u_103_178 : PW B X 103 178 lv (.ref a :: st) h Q ↔ (pm_w st ≤ 8 ∧ pm_io B h a 10 = true ∧ PW B X 101 0 [some (.ref a)] [] h (fun r h' => PW B X 103 181 lv (r.toList ++ st) h' Q)) := PW_cv (y := 101) (as := []) (rest := st) rfl rfl rfl rfl rfl ⟨Nat.le_of_ble_eq_true rfl, Nat.le_of_ble_eq_true rfl, Nat.le_of_ble_eq_true rfl⟩
theorem u_103_181 : PW B X 103 181 [some (.ref a), v1, v2] (st) h Q ↔ PW B X 103 182 [some (.ref a), v1, v2] (.ref a :: st) h Q := PW_step rfl rfl rfl rfl
theorem u_103_181n : PW B X 103 181 [some .null, v1, v2] (st) h Q ↔ PW B X 103 182 [some .null, v1, v2] (.null :: st) h Q := PW_step rfl rfl rfl rfl
theorem u_103_182 : PW B X 103 182 lv (.ref a :: st) h Q ↔ (pm_w st ≤ 8 ∧ pm_io B h a 10 = true ∧ PW B X 104 0 [some (.ref a)] [] h (fun r h' => PW B X 103 185 lv (r.toList ++ st) h' Q)) := PW_cv (y := 104) (as := []) (rest := st) rfl rfl rfl rfl rfl ⟨Nat.le_of_ble_eq_true rfl, Nat.le_of_ble_eq_true rfl, Nat.le_of_ble_eq_true rfl⟩
theorem u_103_185 : PW B X 103 185 lv (st) h Q ↔ PW B X 103 187 lv (.int 97 :: st) h Q := PW_step rfl rfl rfl rfl
theorem u_103_187 : PW B X 103 187 lv (.int y :: .int x :: st) h Q ↔ (if x < y then PW B X 103 199 lv (st) h Q else PW B X 103 190 lv (st) h Q) := PW_icmp rfl rfl pm_c_lt
theorem u_103_190 : PW B X 103 190 [some (.ref a), v1, v2] (st) h Q ↔ PW B X 103 191 [some (.ref a), v1, v2] (.ref a :: st) h Q := PW_step rfl rfl rfl rfl
theorem u_103_190n : PW B X 103 190 [some .null, v1, v2] (st) h Q ↔ PW B X 103 191 [some .null, v1, v2] (.null :: st) h Q := PW_step rfl rfl rfl rfl
theorem u_103_191 : PW B X 103 191 lv (.ref a :: st) h Q ↔ (pm_w st ≤ 8 ∧ pm_io B h a 10 = true ∧ PW B X 104 0 [some (.ref a)] [] h (fun r h' => PW B X 103 194 lv (r.toList ++ st) h' Q)) := PW_cv (y := 104) (as := []) (rest := st) rfl rfl rfl rfl rfl ⟨Nat.le_of_ble_eq_true rfl, Nat.le_of_ble_eq_true rfl, Nat.le_of_ble_eq_true rfl⟩
theorem u_103_194 : PW B X 103 194 lv (st) h Q ↔ PW B X 103 196 lv (.int 104 :: st) h Q := PW_step rfl rfl rfl rfl
theorem u_103_196 : PW B X 103 196 lv (.int y :: .int x :: st) h Q ↔ (if x ≤ y then PW B X 103 208 lv (st) h Q else PW B X 103 199 lv (st) h Q) := PW_icmp rfl rfl pm_c_le
theorem u_103_199 : PW B X 103 199 [some (.ref a), v1, v2] (st) h Q ↔ PW B X 103 200 [some (.ref a), v1, v2] (.ref a :: st) h Q := PW_step rfl rfl rfl rfl
theorem u_103_199n : PW B X 103 199 [some .null, v1, v2] (st) h Q ↔ PW B X 103 200 [some .null, v1, v2] (.null :: st) h Q := PW_step rfl rfl rfl rfl
theorem u_103_200 : PW B X 103 200 [some (.ref a), v1, v2] (st) h Q ↔ PW B X 103 201 [some (.ref a), v1, v2] (.ref a :: st) h Q := PW_step rfl rfl rfl rfl
theorem u_103_200n : PW B X 103 200 [some .null, v1, v2] (st) h Q ↔ PW B X 103 201 [some .null, v1, v2] (.null :: st) h Q := PW_step rfl rfl rfl rfl
theorem u_103_201 : PW B X 103 201 lv (.ref a :: st) h Q ↔ pm_O (pm_gf (pm_at B h a) 10 8) (fun v => PW B X 103 204 lv (v :: st) h Q) := PW_getf rfl rfl
theorem u_103_204 : PW B X 103 204 lv (.int q0 :: .ref a :: st) h Q ↔ (pm_w st ≤ 8 ∧ pm_io B h a 10 = true ∧ PW B X 102 0 [some (.ref a), some (.int q0)] [] h (fun r h' => PW B X 103 207 lv (r.toList ++ st) h' Q)) := PW_cv (y := 102) (as := [.int q0]) (rest := st) rfl rfl rfl rfl rfl ⟨Nat.le_of_ble_eq_true rfl, Nat.le_of_ble_eq_true rfl, Nat.le_of_ble_eq_true rfl⟩
theorem u_103_207 : PW B X 103 207 lv ([]) h Q ↔ Q none h := PW_ret rfl rfl
theorem u_103_208 : PW B X 103 208 [some (.ref a), v1, v2] (st) h Q ↔ PW B X 103 209 [some (.ref a), v1, v2] (.ref a :: st) h Q := PW_step rfl rfl rfl rfl
theorem u_103_208n : PW B X 103 208 [some .null, v1, v2] (st) h Q ↔ PW B X 103 209 [some .null, v1, v2] (.null :: st) h Q := PW_step rfl rfl rfl rfl
theorem u_103_209 : PW B X 103 209 lv (.ref a :: st) h Q ↔ pm_O (pm_gf (pm_at B h a) 10 15) (fun v => PW B X 103 212 lv (v :: st) h Q) := PW_getf rfl rfl
theorem u_103_212 : PW B X 103 212 [v0, v1, some (.int x)] (st) h Q ↔ PW B X 103 213 [v0, v1, some (.int x)] (.int x :: st) h Q := PW_step rfl rfl rfl rfl
theorem u_103_213 : PW B X 103 213 lv (st) h Q ↔ PW B X 103 214 lv (.int 3 :: st) h Q := PW_step rfl rfl rfl rfl
theorem u_103_214 : PW B X 103 214 lv (.int y :: .int x :: st) h Q ↔ PW B X 103 215 lv (.int (x + y) :: st) h Q := PW_step rfl rfl rfl rfl
theorem u_103_215 : PW B X 103 215 [some (.ref a), v1, v2] (st) h Q ↔ PW B X 103 216 [some (.ref a), v1, v2] (.ref a :: st) h Q := PW_step rfl rfl rfl rfl
theorem u_103_215n : PW B X 103 215 [some .null, v1, v2] (st) h Q ↔ PW B X 103 216 [some .null, v1, v2] (.null :: st) h Q := PW_step rfl rfl rfl rfl
theorem u_103_216 : PW B X 103 216 lv (.ref a :: st) h Q ↔ (pm_w st ≤ 8 ∧ pm_io B h a 10 = true ∧ PW B X 104 0 [some (.ref a)] [] h (fun r h' => PW B X 103 219 lv (r.toList ++ st) h' Q)) := PW_cv (y := 104) (as := []) (rest := st) rfl rfl rfl rfl rfl ⟨Nat.le_of_ble_eq_true rfl, Nat.le_of_ble_eq_true rfl, Nat.le_of_ble_eq_true rfl⟩
theorem u_103_219 : PW B X 103 219 lv (st) h Q ↔ PW B X 103 221 lv (.int 97 :: st) h Q := PW_step rfl rfl rfl rfl
theorem u_103_221 : PW B X 103 221 lv (.int y :: .int x :: st) h Q ↔ PW B X 103 222 lv (.int (x - y) :: st) h Q := PW_step rfl rfl rfl rfl
theorem u_103_222 : PW B X 103 222 lv (.int y :: .int x :: .ref a :: st) h Q ↔ pm_O (pm_sti 0 (pm_at B h a) x y) (fun e => PW B X 103 223 lv (st) (pm_set B h a e) Q) := PW_iast rfl
theorem u_103_223 : PW B X 103 223 [some (.ref a), v1, v2] (st) h Q ↔ PW B X 103 224 [some (.ref a), v1, v2] (.ref a :: st) h Q := PW_step rfl rfl rfl rfl
theorem u_103_223n : PW B X 103 223 [some .null, v1, v2] (st) h Q ↔ PW B X 103 224 [some .null, v1, v2] (.null :: st) h Q := PW_step rfl rfl rfl rfl
theorem u_103_224 : PW B X 103 224 lv (.ref a :: st) h Q ↔ PW B X 103 225 lv (.ref a :: .ref a :: st) h Q := PW_step rfl rfl rfl rfl
theorem u_103_224i : PW B X 103 224 lv (.int x :: st) h Q ↔ PW B X 103 225 lv (.int x :: .int x :: st) h Q := PW_step rfl rfl rfl rfl
theorem u_103_225 : PW B X 103 225 lv (.ref a :: st) h Q ↔ pm_O (pm_gf (pm_at B h a) 10 8) (fun v => PW B X 103 228 lv (v :: st) h Q) := PW_getf rfl rfl
theorem u_103_228 : PW B X 103 228 lv (st) h Q ↔ PW B X 103 229 lv (.int 1 :: st) h Q := PW_step rfl rfl rfl rfl
theorem u_103_229 : PW B X 103 229 lv (.int y :: .int x :: st) h Q ↔ PW B X 103 230 lv (.int (x + y) :: st) h Q := PW_step rfl rfl rfl rfl
theorem u_103_230 : PW B X 103 230 lv (v :: .ref a :: st) h Q ↔ pm_O (pm_pf (pm_at B h a) 10 8 v) (fun e => PW B X 103 233 lv (st) (pm_set B h a e) Q) := PW_putf rfl rfl
theorem u_103_233 : PW B X 103 233 [some (.ref a), v1, v2] (st) h Q ↔ PW B X 103 234 [some (.ref a), v1, v2] (.ref a :: st) h Q := PW_step rfl rfl rfl rfl
theorem u_103_233n : PW B X 103 233 [some .null, v1, v2] (st) h Q ↔ PW B X 103 234 [some .null, v1, v2] (.null :: st) h Q := PW_step rfl rfl rfl rfl
theorem u_103_234 : PW B X 103 234 lv (.ref a :: st) h Q ↔ (pm_w st ≤ 8 ∧ pm_io B h a 10 = true ∧ PW B X 101 0 [some (.ref a)] [] h (fun r h' => PW B X 103 237 lv (r.toList ++ st) h' Q)) := PW_cv (y := 101) (as := []) (rest := st) rfl rfl rfl rfl rfl ⟨Nat.le_of_ble_eq_true rfl, Nat.le_of_ble_eq_true rfl, Nat.le_of_ble_eq_true rfl⟩
theorem u_103_237 : PW B X 103 237 [some (.ref a), v1, v2] (st) h Q ↔ PW B X 103 238 [some (.ref a), v1, v2] (.ref a :: st) h Q := PW_step rfl rfl rfl rfl
theorem u_103_237n : PW B X 103 237 [some .null, v1, v2] (st) h Q ↔ PW B X 103 238 [some .null, v1, v2] (.null :: st) h Q := PW_step rfl rfl rfl rfl
theorem u_103_238 : PW B X 103 238 lv (.ref a :: st) h Q ↔ pm_O (pm_gf (pm_at B h a) 10 14) (fun v => PW B X 103 241 lv (v :: st) h Q) := PW_getf rfl rfl
theorem u_103_241 : PW B X 103 241 [some (.ref a), v1, v2] (st) h Q ↔ PW B X 103 242 [some (.ref a), v1, v2] (.ref a :: st) h Q := PW_step rfl rfl rfl rfl
theorem u_103_241n : PW B X 103 241 [some .null, v1, v2] (st) h Q ↔ PW B X 103 242 [some .null, v1, v2] (.null :: st) h Q := PW_step rfl rfl rfl rfl
theorem u_103_242 : PW B X 103 242 lv (.ref a :: st) h Q ↔ pm_O (pm_gf (pm_at B h a) 10 13) (fun v => PW B X 103 245 lv (v :: st) h Q) := PW_getf rfl rfl
theorem u_103_245 : PW B X 103 245 lv (.int x :: .ref a :: st) h Q ↔ PW B X 103 246 lv (.int x :: .ref a :: .int x :: .ref a :: st) h Q := PW_step rfl rfl rfl rfl
theorem u_103_246 : PW B X 103 246 lv (.int x :: .ref a :: st) h Q ↔ pm_O (pm_ldi 0 (pm_at B h a) x) (fun v => PW B X 103 247 lv (v :: st) h Q) := PW_iald rfl rfl
theorem u_103_247 : PW B X 103 247 lv (st) h Q ↔ PW B X 103 248 lv (.int 1 :: st) h Q := PW_step rfl rfl rfl rfl
theorem u_103_248 : PW B X 103 248 lv (.int y :: .int x :: st) h Q ↔ PW B X 103 249 lv (.int (x + y) :: st) h Q := PW_step rfl rfl rfl rfl
theorem u_103_249 : PW B X 103 249 lv (.int y :: .int x :: .ref a :: st) h Q ↔ pm_O (pm_sti 0 (pm_at B h a) x y) (fun e => PW B X 103 250 lv (st) (pm_set B h a e) Q) := PW_iast rfl
theorem u_103_250 : PW B X 103 250 lv ([]) h Q ↔ Q none h := PW_ret rfl rfl
-- 104 Ref_look
theorem u_104_0 : PW B X 104 0 [some (.ref a)] (st) h Q ↔ PW B X 104 1 [some (.ref a)] (.ref a :: st) h Q := PW_step rfl rfl rfl rfl
theorem u_104_0n : PW B X 104 0 [some .null] (st) h Q ↔ PW B X 104 1 [some .null] (.null :: st) h Q := PW_step rfl rfl rfl rfl
theorem u_104_1 : PW B X 104 1 lv (.ref a :: st) h Q ↔ pm_O (pm_gf (pm_at B h a) 10 8) (fun v => PW B X 104 4 lv (v :: st) h Q) := PW_getf rfl rfl
theorem u_104_4 : PW B X 104 4 [some (.ref a)] (st) h Q ↔ PW B X 104 5 [some (.ref a)] (.ref a :: st) h Q := PW_step rfl rfl rfl rfl
theorem u_104_4n : PW B X 104 4 [some .null] (st) h Q ↔ PW B X 104 5 [some .null] (.null :: st) h Q := PW_step rfl rfl rfl rfl
theorem u_104_5 : PW B X 104 5 lv (.ref a :: st) h Q ↔ pm_O (pm_gf (pm_at B h a) 10 7) (fun v => PW B X 104 8 lv (v :: st) h Q) := PW_getf rfl rfl
theorem u_104_8 : PW B X 104 8 lv (.int y :: .int x :: st) h Q ↔ (if y ≤ x then PW B X 104 23 lv (st) h Q else PW B X 104 11 lv (st) h Q) := PW_icmp rfl rfl pm_c_ge
theorem u_104_11 : PW B X 104 11 [some (.ref a)] (st) h Q ↔ PW B X 104 12 [some (.ref a)] (.ref a :: st) h Q := PW_step rfl rfl rfl rfl
theorem u_104_11n : PW B X 104 11 [some .null] (st) h Q ↔ PW B X 104 12 [some .null] (.null :: st) h Q := PW_step rfl rfl rfl rfl
theorem u_104_12 : PW B X 104 12 lv (.ref a :: st) h Q ↔ pm_O (pm_gf (pm_at B h a) 10 6) (fun v => PW B X 104 15 lv (v :: st) h Q) := PW_getf rfl rfl
theorem u_104_15 : PW B X 104 15 [some (.ref a)] (st) h Q ↔ PW B X 104 16 [some (.ref a)] (.ref a :: st) h Q := PW_step rfl rfl rfl rfl
theorem u_104_15n : PW B X 104 15 [some .null] (st) h Q ↔ PW B X 104 16 [some .null] (.null :: st) h Q := PW_step rfl rfl rfl rfl
theorem u_104_16 : PW B X 104 16 lv (.ref a :: st) h Q ↔ pm_O (pm_gf (pm_at B h a) 10 8) (fun v => PW B X 104 19 lv (v :: st) h Q) := PW_getf rfl rfl
theorem u_104_19 : PW B X 104 19 lv (.int x :: .ref a :: st) h Q ↔ pm_O (pm_ldi 0 (pm_at B h a) x) (fun v => PW B X 104 20 lv (v :: st) h Q) := PW_iald rfl rfl
theorem u_104_20 : PW B X 104 20 lv (st) h Q ↔ PW B X 104 24 lv (st) h Q := PW_step rfl rfl rfl rfl
theorem u_104_23 : PW B X 104 23 lv (st) h Q ↔ PW B X 104 24 lv (.int 0 :: st) h Q := PW_step rfl rfl rfl rfl
theorem u_104_24 : PW B X 104 24 lv ([.int x]) h Q ↔ Q (some (.int x)) h := PW_ret rfl rfl
-- 105 Ref_isDigit
theorem u_105_0 : PW B X 105 0 [some (.int x)] (st) h Q ↔ PW B X 105 1 [some (.int x)] (.int x :: st) h Q := PW_step rfl rfl rfl rfl
theorem u_105_1 : PW B X 105 1 lv (st) h Q ↔ PW B X 105 3 lv (.int 48 :: st) h Q := PW_step rfl rfl rfl rfl
theorem u_105_3 : PW B X 105 3 lv (.int y :: .int x :: st) h Q ↔ (if x < y then PW B X 105 16 lv (st) h Q else PW B X 105 6 lv (st) h Q) := PW_icmp rfl rfl pm_c_lt
theorem u_105_6 : PW B X 105 6 [some (.int x)] (st) h Q ↔ PW B X 105 7 [some (.int x)] (.int x :: st) h Q := PW_step rfl rfl rfl rfl
theorem u_105_7 : PW B X 105 7 lv (st) h Q ↔ PW B X 105 9 lv (.int 57 :: st) h Q := PW_step rfl rfl rfl rfl
theorem u_105_9 : PW B X 105 9 lv (.int y :: .int x :: st) h Q ↔ (if y < x then PW B X 105 16 lv (st) h Q else PW B X 105 12 lv (st) h Q) := PW_icmp rfl rfl pm_c_gt
theorem u_105_12 : PW B X 105 12 lv (st) h Q ↔ PW B X 105 13 lv (.int 1 :: st) h Q := PW_step rfl rfl rfl rfl
theorem u_105_13 : PW B X 105 13 lv (st) h Q ↔ PW B X 105 17 lv (st) h Q := PW_step rfl rfl rfl rfl
theorem u_105_16 : PW B X 105 16 lv (st) h Q ↔ PW B X 105 17 lv (.int 0 :: st) h Q := PW_step rfl rfl rfl rfl
theorem u_105_17 (hx : narrow .boolean (.int x) = .int x) : PW B X 105 17 lv ([.int x]) h Q ↔ Q (some (.int x)) h := PW_bret rfl rfl (by simp) hx
theorem u_105_17_0 : PW B X 105 17 lv ([.int 0]) h Q ↔ Q (some (.int 0)) h := u_105_17 rfl
theorem u_105_17_1 : PW B X 105 17 lv ([.int 1]) h Q ↔ Q (some (.int 1)) h := u_105_17 rfl
-- 106 Ref_number
theorem u_106_0 : PW B X 106 0 [some (.ref a), v1, v2] (st) h Q ↔ PW B X 106 1 [some (.ref a), v1, v2] (.ref a :: st) h Q := PW_step rfl rfl rfl rfl
theorem u_106_0n : PW B X 106 0 [some .null, v1, v2] (st) h Q ↔ PW B X 106 1 [some .null, v1, v2] (.null :: st) h Q := PW_step rfl rfl rfl rfl
theorem u_106_1 : PW B X 106 1 lv (.ref a :: st) h Q ↔ pm_O (pm_gf (pm_at B h a) 10 8) (fun v => PW B X 106 4 lv (v :: st) h Q) := PW_getf rfl rfl
theorem u_106_4 : PW B X 106 4 [v0, v1, v2] (.int x :: st) h Q ↔ PW B X 106 5 [pm_c v0, some (.int x), v2] (st) h Q := PW_step rfl rfl rfl rfl
theorem u_106_5 : PW B X 106 5 lv (st) h Q ↔ PW B X 106 6 lv (.int 0 :: st) h Q := PW_step rfl rfl rfl rfl
theorem u_106_6 : PW B X 106 6 [v0, v1, v2] (.int x :: st) h Q ↔ PW B X 106 7 [v0, pm_c v1, some (.int x)] (st) h Q := PW_step rfl rfl rfl rfl
theorem u_106_7 : PW B X 106 7 [some (.ref a), v1, v2] (st) h Q ↔ PW B X 106 8 [some (.ref a), v1, v2] (.ref a :: st) h Q := PW_step rfl rfl rfl rfl
theorem u_106_7n : PW B X 106 7 [some .null, v1, v2] (st) h Q ↔ PW B X 106 8 [some .null, v1, v2] (.null :: st) h Q := PW_step rfl rfl rfl rfl
theorem u_106_8 : PW B X 106 8 lv (.ref a :: st) h Q ↔ (pm_w st ≤ 8 ∧ pm_io B h a 10 = true ∧ PW B X 104 0 [some (.ref a)] [] h (fun r h' => PW B X 106 11 lv (r.toList ++ st) h' Q)) := PW_cv (y := 104) (as := []) (rest := st) rfl rfl rfl rfl rfl ⟨Nat.le_of_ble_eq_true rfl, Nat.le_of_ble_eq_true rfl, Nat.le_of_ble_eq_true rfl⟩
theorem u_106_11 : PW B X 106 11 lv (.int q0 :: st) h Q ↔ (pm_w st ≤ 8 ∧ PW B X 105 0 [some (.int q0)] [] h (fun r h' => PW B X 106 14 lv (r.toList ++ st) h' Q)) := PW_cs (y := 105) (as := [.int q0]) (rest := st) rfl rfl rfl rfl rfl ⟨Nat.le_of_ble_eq_true rfl, Nat.le_of_ble_eq_true rfl, Nat.le_of_ble_eq_true rfl⟩
theorem u_106_14 : PW B X 106 14 lv (.int x :: st) h Q ↔ (if x = 0 then PW B X 106 57 lv (st) h Q else PW B X 106 17 lv (st) h Q) := PW_if rfl rfl pm_c_eq
theorem u_106_17 : PW B X 106 17 [some (.ref a), v1, v2] (st) h Q ↔ PW B X 106 18 [some (.ref a), v1, v2] (.ref a :: st) h Q := PW_step rfl rfl rfl rfl
theorem u_106_17n : PW B X 106 17 [some .null, v1, v2] (st) h Q ↔ PW B X 106 18 [some .null, v1, v2] (.null :: st) h Q := PW_step rfl rfl rfl rfl
theorem u_106_18 : PW B X 106 18 lv (.ref a :: st) h Q ↔ pm_O (pm_gf (pm_at B h a) 10 8) (fun v => PW B X 106 21 lv (v :: st) h Q) := PW_getf rfl rfl
theorem u_106_21 : PW B X 106 21 [v0, some (.int x), v2] (st) h Q ↔ PW B X 106 22 [v0, some (.int x), v2] (.int x :: st) h Q := PW_step rfl rfl rfl rfl
theorem u_106_22 : PW B X 106 22 lv (.int y :: .int x :: st) h Q ↔ PW B X 106 23 lv (.int (x - y) :: st) h Q := PW_step rfl rfl rfl rfl
theorem u_106_23 : PW B X 106 23 lv (st) h Q ↔ PW B X 106 24 lv (.int 4 :: st) h Q := PW_step rfl rfl rfl rfl
theorem u_106_24 : PW B X 106 24 lv (.int y :: .int x :: st) h Q ↔ (if y ≤ x then PW B X 106 42 lv (st) h Q else PW B X 106 27 lv (st) h Q) := PW_icmp rfl rfl pm_c_ge
theorem u_106_27 : PW B X 106 27 lv (st) h Q ↔ PW B X 106 29 lv (.int 10 :: st) h Q := PW_step rfl rfl rfl rfl
theorem u_106_29 : PW B X 106 29 [v0, v1, some (.int x)] (st) h Q ↔ PW B X 106 30 [v0, v1, some (.int x)] (.int x :: st) h Q := PW_step rfl rfl rfl rfl
theorem u_106_30 : PW B X 106 30 lv (.int y :: .int x :: st) h Q ↔ PW B X 106 31 lv (.int (x * y) :: st) h Q := PW_step rfl rfl rfl rfl
theorem u_106_31 : PW B X 106 31 [some (.ref a), v1, v2] (st) h Q ↔ PW B X 106 32 [some (.ref a), v1, v2] (.ref a :: st) h Q := PW_step rfl rfl rfl rfl
theorem u_106_31n : PW B X 106 31 [some .null, v1, v2] (st) h Q ↔ PW B X 106 32 [some .null, v1, v2] (.null :: st) h Q := PW_step rfl rfl rfl rfl
theorem u_106_32 : PW B X 106 32 lv (.ref a :: st) h Q ↔ (pm_w st ≤ 8 ∧ pm_io B h a 10 = true ∧ PW B X 104 0 [some (.ref a)] [] h (fun r h' => PW B X 106 35 lv (r.toList ++ st) h' Q)) := PW_cv (y := 104) (as := []) (rest := st) rfl rfl rfl rfl rfl ⟨Nat.le_of_ble_eq_true rfl, Nat.le_of_ble_eq_true rfl, Nat.le_of_ble_eq_true rfl⟩
theorem u_106_35 : PW B X 106 35 lv (.int y :: .int x :: st) h Q ↔ PW B X 106 36 lv (.int (x + y) :: st) h Q := PW_step rfl rfl rfl rfl
theorem u_106_36 : PW B X 106 36 lv (st) h Q ↔ PW B X 106 38 lv (.int 48 :: st) h Q := PW_step rfl rfl rfl rfl
theorem u_106_38 : PW B X 106 38 lv (.int y :: .int x :: st) h Q ↔ PW B X 106 39 lv (.int (x - y) :: st) h Q := PW_step rfl rfl rfl rfl
theorem u_106_39 : PW B X 106 39 lv (st) h Q ↔ PW B X 106 43 lv (st) h Q := PW_step rfl rfl rfl rfl
theorem u_106_42 : PW B X 106 42 [v0, v1, some (.int x)] (st) h Q ↔ PW B X 106 43 [v0, v1, some (.int x)] (.int x :: st) h Q := PW_step rfl rfl rfl rfl
theorem u_106_43 : PW B X 106 43 [v0, v1, v2] (.int x :: st) h Q ↔ PW B X 106 44 [v0, pm_c v1, some (.int x)] (st) h Q := PW_step rfl rfl rfl rfl
theorem u_106_44 : PW B X 106 44 [some (.ref a), v1, v2] (st) h Q ↔ PW B X 106 45 [some (.ref a), v1, v2] (.ref a :: st) h Q := PW_step rfl rfl rfl rfl
theorem u_106_44n : PW B X 106 44 [some .null, v1, v2] (st) h Q ↔ PW B X 106 45 [some .null, v1, v2] (.null :: st) h Q := PW_step rfl rfl rfl rfl
theorem u_106_45 : PW B X 106 45 lv (.ref a :: st) h Q ↔ PW B X 106 46 lv (.ref a :: .ref a :: st) h Q := PW_step rfl rfl rfl rfl
theorem u_106_45i : PW B X 106 45 lv (.int x :: st) h Q ↔ PW B X 106 46 lv (.int x :: .int x :: st) h Q := PW_step rfl rfl rfl rfl
theorem u_106_46 : PW B X 106 46 lv (.ref a :: st) h Q ↔ pm_O (pm_gf (pm_at B h a) 10 8) (fun v => PW B X 106 49 lv (v :: st) h Q) := PW_getf rfl rfl
theorem u_106_49 : PW B X 106 49 lv (st) h Q ↔ PW B X 106 50 lv (.int 1 :: st) h Q := PW_step rfl rfl rfl rfl
theorem u_106_50 : PW B X 106 50 lv (.int y :: .int x :: st) h Q ↔ PW B X 106 51 lv (.int (x + y) :: st) h Q := PW_step rfl rfl rfl rfl
theorem u_106_51 : PW B X 106 51 lv (v :: .ref a :: st) h Q ↔ pm_O (pm_pf (pm_at B h a) 10 8 v) (fun e => PW B X 106 54 lv (st) (pm_set B h a e) Q) := PW_putf rfl rfl
theorem u_106_54 : PW B X 106 54 lv (st) h Q ↔ PW B X 106 7 lv (st) h Q := PW_step rfl rfl rfl rfl
theorem u_106_57 : PW B X 106 57 [some (.ref a), v1, v2] (st) h Q ↔ PW B X 106 58 [some (.ref a), v1, v2] (.ref a :: st) h Q := PW_step rfl rfl rfl rfl
theorem u_106_57n : PW B X 106 57 [some .null, v1, v2] (st) h Q ↔ PW B X 106 58 [some .null, v1, v2] (.null :: st) h Q := PW_step rfl rfl rfl rfl
theorem u_106_58 : PW B X 106 58 lv (.ref a :: st) h Q ↔ pm_O (pm_gf (pm_at B h a) 10 8) (fun v => PW B X 106 61 lv (v :: st) h Q) := PW_getf rfl rfl
theorem u_106_61 : PW B X 106 61 [v0, some (.int x), v2] (st) h Q ↔ PW B X 106 62 [v0, some (.int x), v2] (.int x :: st) h Q := PW_step rfl rfl rfl rfl
theorem u_106_62 : PW B X 106 62 lv (.int y :: .int x :: st) h Q ↔ (if x = y then PW B X 106 86 lv (st) h Q else PW B X 106 65 lv (st) h Q) := PW_icmp rfl rfl pm_c_eq
theorem u_106_65 : PW B X 106 65 [some (.ref a), v1, v2] (st) h Q ↔ PW B X 106 66 [some (.ref a), v1, v2] (.ref a :: st) h Q := PW_step rfl rfl rfl rfl
theorem u_106_65n : PW B X 106 65 [some .null, v1, v2] (st) h Q ↔ PW B X 106 66 [some .null, v1, v2] (.null :: st) h Q := PW_step rfl rfl rfl rfl
theorem u_106_66 : PW B X 106 66 lv (.ref a :: st) h Q ↔ pm_O (pm_gf (pm_at B h a) 10 8) (fun v => PW B X 106 69 lv (v :: st) h Q) := PW_getf rfl rfl
theorem u_106_69 : PW B X 106 69 [v0, some (.int x), v2] (st) h Q ↔ PW B X 106 70 [v0, some (.int x), v2] (.int x :: st) h Q := PW_step rfl rfl rfl rfl
theorem u_106_70 : PW B X 106 70 lv (.int y :: .int x :: st) h Q ↔ PW B X 106 71 lv (.int (x - y) :: st) h Q := PW_step rfl rfl rfl rfl
theorem u_106_71 : PW B X 106 71 lv (st) h Q ↔ PW B X 106 72 lv (.int 3 :: st) h Q := PW_step rfl rfl rfl rfl
theorem u_106_72 : PW B X 106 72 lv (.int y :: .int x :: st) h Q ↔ (if y < x then PW B X 106 86 lv (st) h Q else PW B X 106 75 lv (st) h Q) := PW_icmp rfl rfl pm_c_gt
theorem u_106_75 : PW B X 106 75 [some (.ref a), v1, v2] (st) h Q ↔ PW B X 106 76 [some (.ref a), v1, v2] (.ref a :: st) h Q := PW_step rfl rfl rfl rfl
theorem u_106_75n : PW B X 106 75 [some .null, v1, v2] (st) h Q ↔ PW B X 106 76 [some .null, v1, v2] (.null :: st) h Q := PW_step rfl rfl rfl rfl
theorem u_106_76 : PW B X 106 76 lv (.ref a :: st) h Q ↔ pm_O (pm_gf (pm_at B h a) 10 6) (fun v => PW B X 106 79 lv (v :: st) h Q) := PW_getf rfl rfl
theorem u_106_79 : PW B X 106 79 [v0, some (.int x), v2] (st) h Q ↔ PW B X 106 80 [v0, some (.int x), v2] (.int x :: st) h Q := PW_step rfl rfl rfl rfl
theorem u_106_80 : PW B X 106 80 lv (.int x :: .ref a :: st) h Q ↔ pm_O (pm_ldi 0 (pm_at B h a) x) (fun v => PW B X 106 81 lv (v :: st) h Q) := PW_iald rfl rfl
theorem u_106_81 : PW B X 106 81 lv (st) h Q ↔ PW B X 106 83 lv (.int 48 :: st) h Q := PW_step rfl rfl rfl rfl
theorem u_106_83 : PW B X 106 83 lv (.int y :: .int x :: st) h Q ↔ (if ¬ x = y then PW B X 106 91 lv (st) h Q else PW B X 106 86 lv (st) h Q) := PW_icmp rfl rfl pm_c_ne
theorem u_106_86 : PW B X 106 86 [some (.ref a), v1, v2] (st) h Q ↔ PW B X 106 87 [some (.ref a), v1, v2] (.ref a :: st) h Q := PW_step rfl rfl rfl rfl
theorem u_106_86n : PW B X 106 86 [some .null, v1, v2] (st) h Q ↔ PW B X 106 87 [some .null, v1, v2] (.null :: st) h Q := PW_step rfl rfl rfl rfl
theorem u_106_87 : PW B X 106 87 [v0, some (.int x), v2] (st) h Q ↔ PW B X 106 88 [v0, some (.int x), v2] (.int x :: st) h Q := PW_step rfl rfl rfl rfl
theorem u_106_88 : PW B X 106 88 lv (.int q0 :: .ref a :: st) h Q ↔ (pm_w st ≤ 8 ∧ pm_io B h a 10 = true ∧ PW B X 102 0 [some (.ref a), some (.int q0)] [] h (fun r h' => PW B X 106 91 lv (r.toList ++ st) h' Q)) := PW_cv (y := 102) (as := [.int q0]) (rest := st) rfl rfl rfl rfl rfl ⟨Nat.le_of_ble_eq_true rfl, Nat.le_of_ble_eq_true rfl, Nat.le_of_ble_eq_true rfl⟩
theorem u_106_91 : PW B X 106 91 [v0, v1, some (.int x)] (st) h Q ↔ PW B X 106 92 [v0, v1, some (.int x)] (.int x :: st) h Q := PW_step rfl rfl rfl rfl
theorem u_106_92 : PW B X 106 92 lv ([.int x]) h Q ↔ Q (some (.int x)) h := PW_ret rfl rfl
-- 107 Ref_sum
theorem u_107_0 : PW B X 107 0 [some (.ref a), v1, v2, v3, v4] (st) h Q ↔ PW B X 107 1 [some (.ref a), v1, v2, v3, v4] (.ref a :: st) h Q := PW_step rfl rfl rfl rfl
theorem u_107_0n : PW B X 107 0 [some .null, v1, v2, v3, v4] (st) h Q ↔ PW B X 107 1 [some .null, v1, v2, v3, v4] (.null :: st) h Q := PW_step rfl rfl rfl rfl
theorem u_107_1 : PW B X 107 1 [v0, some (.int x), v2, v3, v4] (st) h Q ↔ PW B X 107 2 [v0, some (.int x), v2, v3, v4] (.int x :: st) h Q := PW_step rfl rfl rfl rfl
theorem u_107_2 : PW B X 107 2 lv (.int q0 :: .ref a :: st) h Q ↔ (pm_w st ≤ 8 ∧ pm_io B h a 10 = true ∧ PW B X 96 0 [some (.ref a), some (.int q0)] [] h (fun r h' => PW B X 107 5 lv (r.toList ++ st) h' Q)) := PW_cv (y := 96) (as := [.int q0]) (rest := st) rfl rfl rfl rfl rfl ⟨Nat.le_of_ble_eq_true rfl, Nat.le_of_ble_eq_true rfl, Nat.le_of_ble_eq_true rfl⟩
theorem u_107_5 : PW B X 107 5 lv (.int x :: st) h Q ↔ (if x = 0 then PW B X 107 38 lv (st) h Q else PW B X 107 8 lv (st) h Q) := PW_if rfl rfl pm_c_eq
theorem u_107_8 : PW B X 107 8 [v0, v1, some (.int x), v3, v4] (st) h Q ↔ PW B X 107 9 [v0, v1, some (.int x), v3, v4] (.int x :: st) h Q := PW_step rfl rfl rfl rfl
theorem u_107_9 : PW B X 107 9 lv (.int x :: st) h Q ↔ PW B X 107 10 lv (.long x.toInt64 :: st) h Q := PW_step rfl rfl rfl rfl
theorem u_107_10 : PW B X 107 10 lv (st) h Q ↔ PW B X 107 11 lv (.long 0 :: st) h Q := PW_step rfl rfl rfl rfl
theorem u_107_11 : PW B X 107 11 lv (st) h Q ↔ PW B X 107 14 lv (.long 2 :: st) h Q := PW_step rfl rfl rfl rfl
theorem u_107_14 : PW B X 107 14 lv (.long p2 :: .long p1 :: .long p0 :: st) h Q ↔ (pm_w st ≤ 8 ∧ PW B X 94 0 [some (.long p0), none, some (.long p1), none, some (.long p2), none] [] h (fun r h' => PW B X 107 17 lv (r.toList ++ st) h' Q)) := PW_cs (y := 94) (as := [.long p0, .long p1, .long p2]) (rest := st) rfl rfl rfl rfl rfl ⟨Nat.le_of_ble_eq_true rfl, Nat.le_of_ble_eq_true rfl, Nat.le_of_ble_eq_true rfl⟩
theorem u_107_17 : PW B X 107 17 lv (.int x :: st) h Q ↔ (if x = 0 then PW B X 107 38 lv (st) h Q else PW B X 107 20 lv (st) h Q) := PW_if rfl rfl pm_c_eq
theorem u_107_20 : PW B X 107 20 [v0, v1, v2, some (.int x), v4] (st) h Q ↔ PW B X 107 21 [v0, v1, v2, some (.int x), v4] (.int x :: st) h Q := PW_step rfl rfl rfl rfl
theorem u_107_21 : PW B X 107 21 lv (.int x :: st) h Q ↔ PW B X 107 22 lv (.long x.toInt64 :: st) h Q := PW_step rfl rfl rfl rfl
theorem u_107_22 : PW B X 107 22 lv (st) h Q ↔ PW B X 107 23 lv (.long 0 :: st) h Q := PW_step rfl rfl rfl rfl
theorem u_107_23 : PW B X 107 23 lv (st) h Q ↔ PW B X 107 26 lv (.long 2 :: st) h Q := PW_step rfl rfl rfl rfl
theorem u_107_26 : PW B X 107 26 lv (.long p2 :: .long p1 :: .long p0 :: st) h Q ↔ (pm_w st ≤ 8 ∧ PW B X 94 0 [some (.long p0), none, some (.long p1), none, some (.long p2), none] [] h (fun r h' => PW B X 107 29 lv (r.toList ++ st) h' Q)) := PW_cs (y := 94) (as := [.long p0, .long p1, .long p2]) (rest := st) rfl rfl rfl rfl rfl ⟨Nat.le_of_ble_eq_true rfl, Nat.le_of_ble_eq_true rfl, Nat.le_of_ble_eq_true rfl⟩
theorem u_107_29 : PW B X 107 29 lv (.int x :: st) h Q ↔ (if x = 0 then PW B X 107 38 lv (st) h Q else PW B X 107 32 lv (st) h Q) := PW_if rfl rfl pm_c_eq
theorem u_107_32 : PW B X 107 32 [v0, v1, v2, v3, some (.int x)] (st) h Q ↔ PW B X 107 34 [v0, v1, v2, v3, some (.int x)] (.int x :: st) h Q := PW_step rfl rfl rfl rfl
theorem u_107_34 : PW B X 107 34 lv (st) h Q ↔ PW B X 107 35 lv (.int (-1) :: st) h Q := PW_step rfl rfl rfl rfl
theorem u_107_35 : PW B X 107 35 lv (.int y :: .int x :: st) h Q ↔ (if y ≤ x then PW B X 107 54 lv (st) h Q else PW B X 107 38 lv (st) h Q) := PW_icmp rfl rfl pm_c_ge
theorem u_107_38 : PW B X 107 38 [v0, v1, v2, v3, some (.int x)] (st) h Q ↔ PW B X 107 40 [v0, v1, v2, v3, some (.int x)] (.int x :: st) h Q := PW_step rfl rfl rfl rfl
theorem u_107_40 : PW B X 107 40 lv (st) h Q ↔ PW B X 107 41 lv (.int (-1) :: st) h Q := PW_step rfl rfl rfl rfl
theorem u_107_41 : PW B X 107 41 lv (.int y :: .int x :: st) h Q ↔ (if ¬ x = y then PW B X 107 50 lv (st) h Q else PW B X 107 44 lv (st) h Q) := PW_icmp rfl rfl pm_c_ne
theorem u_107_44 : PW B X 107 44 lv (st) h Q ↔ PW B X 107 47 lv (.long (-2) :: st) h Q := PW_step rfl rfl rfl rfl
theorem u_107_47 : PW B X 107 47 lv (st) h Q ↔ PW B X 107 53 lv (st) h Q := PW_step rfl rfl rfl rfl
theorem u_107_50 : PW B X 107 50 lv (st) h Q ↔ PW B X 107 53 lv (.long (-1) :: st) h Q := PW_step rfl rfl rfl rfl
theorem u_107_53 : PW B X 107 53 lv ([.long z]) h Q ↔ Q (some (.long z)) h := PW_ret rfl rfl
theorem u_107_54 : PW B X 107 54 [some (.ref a), v1, v2, v3, v4] (st) h Q ↔ PW B X 107 55 [some (.ref a), v1, v2, v3, v4] (.ref a :: st) h Q := PW_step rfl rfl rfl rfl
theorem u_107_54n : PW B X 107 54 [some .null, v1, v2, v3, v4] (st) h Q ↔ PW B X 107 55 [some .null, v1, v2, v3, v4] (.null :: st) h Q := PW_step rfl rfl rfl rfl
theorem u_107_55 : PW B X 107 55 [v0, some (.int x), v2, v3, v4] (st) h Q ↔ PW B X 107 56 [v0, some (.int x), v2, v3, v4] (.int x :: st) h Q := PW_step rfl rfl rfl rfl
theorem u_107_56 : PW B X 107 56 [v0, v1, some (.int x), v3, v4] (st) h Q ↔ PW B X 107 57 [v0, v1, some (.int x), v3, v4] (.int x :: st) h Q := PW_step rfl rfl rfl rfl
theorem u_107_57 : PW B X 107 57 lv (.int q1 :: .int q0 :: .ref a :: st) h Q ↔ (pm_w st ≤ 8 ∧ pm_io B h a 10 = true ∧ PW B X 108 0 [some (.ref a), some (.int q0), some (.int q1), none] [] h (fun r h' => PW B X 107 60 lv (r.toList ++ st) h' Q)) := PW_cv (y := 108) (as := [.int q0, .int q1]) (rest := st) rfl rfl rfl rfl rfl ⟨Nat.le_of_ble_eq_true rfl, Nat.le_of_ble_eq_true rfl, Nat.le_of_ble_eq_true rfl⟩
theorem u_107_60 : PW B X 107 60 [some (.ref a), v1, v2, v3, v4] (st) h Q ↔ PW B X 107 61 [some (.ref a), v1, v2, v3, v4] (.ref a :: st) h Q := PW_step rfl rfl rfl rfl
theorem u_107_60n : PW B X 107 60 [some .null, v1, v2, v3, v4] (st) h Q ↔ PW B X 107 61 [some .null, v1, v2, v3, v4] (.null :: st) h Q := PW_step rfl rfl rfl rfl
theorem u_107_61 : PW B X 107 61 [v0, v1, v2, some (.int x), v4] (st) h Q ↔ PW B X 107 62 [v0, v1, v2, some (.int x), v4] (.int x :: st) h Q := PW_step rfl rfl rfl rfl
theorem u_107_62 : PW B X 107 62 lv (st) h Q ↔ PW B X 107 63 lv (.int 2 :: st) h Q := PW_step rfl rfl rfl rfl
theorem u_107_63 : PW B X 107 63 lv (.int y :: .int x :: st) h Q ↔ (if ¬ x = y then PW B X 107 73 lv (st) h Q else PW B X 107 66 lv (st) h Q) := PW_icmp rfl rfl pm_c_ne
theorem u_107_66 : PW B X 107 66 [some (.ref a), v1, v2, v3, v4] (st) h Q ↔ PW B X 107 67 [some (.ref a), v1, v2, v3, v4] (.ref a :: st) h Q := PW_step rfl rfl rfl rfl
theorem u_107_66n : PW B X 107 66 [some .null, v1, v2, v3, v4] (st) h Q ↔ PW B X 107 67 [some .null, v1, v2, v3, v4] (.null :: st) h Q := PW_step rfl rfl rfl rfl
theorem u_107_67 : PW B X 107 67 lv (.ref a :: st) h Q ↔ (pm_w st ≤ 8 ∧ pm_io B h a 10 = true ∧ PW B X 122 0 [some (.ref a)] [] h (fun r h' => PW B X 107 70 lv (r.toList ++ st) h' Q)) := PW_cv (y := 122) (as := []) (rest := st) rfl rfl rfl rfl rfl ⟨Nat.le_of_ble_eq_true rfl, Nat.le_of_ble_eq_true rfl, Nat.le_of_ble_eq_true rfl⟩
theorem u_107_70 : PW B X 107 70 lv (st) h Q ↔ PW B X 107 74 lv (st) h Q := PW_step rfl rfl rfl rfl
theorem u_107_73 : PW B X 107 73 [v0, v1, v2, some (.int x), v4] (st) h Q ↔ PW B X 107 74 [v0, v1, v2, some (.int x), v4] (.int x :: st) h Q := PW_step rfl rfl rfl rfl
theorem u_107_74 : PW B X 107 74 [v0, v1, v2, v3, some (.int x)] (st) h Q ↔ PW B X 107 76 [v0, v1, v2, v3, some (.int x)] (.int x :: st) h Q := PW_step rfl rfl rfl rfl
theorem u_107_76 : PW B X 107 76 lv (.int q1 :: .int q0 :: .ref a :: st) h Q ↔ (pm_w st ≤ 8 ∧ pm_io B h a 10 = true ∧ PW B X 123 0 [some (.ref a), some (.int q0), some (.int q1), none, none] [] h (fun r h' => PW B X 107 79 lv (r.toList ++ st) h' Q)) := PW_cv (y := 123) (as := [.int q0, .int q1]) (rest := st) rfl rfl rfl rfl rfl ⟨Nat.le_of_ble_eq_true rfl, Nat.le_of_ble_eq_true rfl, Nat.le_of_ble_eq_true rfl⟩
theorem u_107_79 : PW B X 107 79 lv ([.long z]) h Q ↔ Q (some (.long z)) h := PW_ret rfl rfl
-- 108 Ref_sumAll
theorem u_108_0 : PW B X 108 0 [some (.ref a), v1, v2, v3] (st) h Q ↔ PW B X 108 1 [some (.ref a), v1, v2, v3] (.ref a :: st) h Q := PW_step rfl rfl rfl rfl
theorem u_108_0n : PW B X 108 0 [some .null, v1, v2, v3] (st) h Q ↔ PW B X 108 1 [some .null, v1, v2, v3] (.null :: st) h Q := PW_step rfl rfl rfl rfl
theorem u_108_1 : PW B X 108 1 lv (st) h Q ↔ PW B X 108 2 lv (.int 0 :: st) h Q := PW_step rfl rfl rfl rfl
theorem u_108_2 : PW B X 108 2 lv (.int q0 :: .ref a :: st) h Q ↔ (pm_w st ≤ 8 ∧ pm_io B h a 10 = true ∧ PW B X 109 0 [some (.ref a), some (.int q0), none] [] h (fun r h' => PW B X 108 5 lv (r.toList ++ st) h' Q)) := PW_cv (y := 109) (as := [.int q0]) (rest := st) rfl rfl rfl rfl rfl ⟨Nat.le_of_ble_eq_true rfl, Nat.le_of_ble_eq_true rfl, Nat.le_of_ble_eq_true rfl⟩
theorem u_108_5 : PW B X 108 5 [some (.ref a), v1, v2, v3] (st) h Q ↔ PW B X 108 6 [some (.ref a), v1, v2, v3] (.ref a :: st) h Q := PW_step rfl rfl rfl rfl
theorem u_108_5n : PW B X 108 5 [some .null, v1, v2, v3] (st) h Q ↔ PW B X 108 6 [some .null, v1, v2, v3] (.null :: st) h Q := PW_step rfl rfl rfl rfl
theorem u_108_6 : PW B X 108 6 lv (st) h Q ↔ PW B X 108 7 lv (.int 1 :: st) h Q := PW_step rfl rfl rfl rfl
theorem u_108_7 : PW B X 108 7 lv (.int q0 :: .ref a :: st) h Q ↔ (pm_w st ≤ 8 ∧ pm_io B h a 10 = true ∧ PW B X 109 0 [some (.ref a), some (.int q0), none] [] h (fun r h' => PW B X 108 10 lv (r.toList ++ st) h' Q)) := PW_cv (y := 109) (as := [.int q0]) (rest := st) rfl rfl rfl rfl rfl ⟨Nat.le_of_ble_eq_true rfl, Nat.le_of_ble_eq_true rfl, Nat.le_of_ble_eq_true rfl⟩
theorem u_108_10 : PW B X 108 10 [some (.ref a), v1, v2, v3] (st) h Q ↔ PW B X 108 11 [some (.ref a), v1, v2, v3] (.ref a :: st) h Q := PW_step rfl rfl rfl rfl
theorem u_108_10n : PW B X 108 10 [some .null, v1, v2, v3] (st) h Q ↔ PW B X 108 11 [some .null, v1, v2, v3] (.null :: st) h Q := PW_step rfl rfl rfl rfl
theorem u_108_11 : PW B X 108 11 lv (st) h Q ↔ PW B X 108 12 lv (.int (-1) :: st) h Q := PW_step rfl rfl rfl rfl
theorem u_108_12 : PW B X 108 12 lv (v :: .ref a :: st) h Q ↔ pm_O (pm_pf (pm_at B h a) 10 31 v) (fun e => PW B X 108 15 lv (st) (pm_set B h a e) Q) := PW_putf rfl rfl
theorem u_108_15 : PW B X 108 15 [some (.ref a), v1, v2, v3] (st) h Q ↔ PW B X 108 16 [some (.ref a), v1, v2, v3] (.ref a :: st) h Q := PW_step rfl rfl rfl rfl
theorem u_108_15n : PW B X 108 15 [some .null, v1, v2, v3] (st) h Q ↔ PW B X 108 16 [some .null, v1, v2, v3] (.null :: st) h Q := PW_step rfl rfl rfl rfl
theorem u_108_16 : PW B X 108 16 lv (st) h Q ↔ PW B X 108 17 lv (.int (-1) :: st) h Q := PW_step rfl rfl rfl rfl
theorem u_108_17 : PW B X 108 17 lv (v :: .ref a :: st) h Q ↔ pm_O (pm_pf (pm_at B h a) 10 32 v) (fun e => PW B X 108 20 lv (st) (pm_set B h a e) Q) := PW_putf rfl rfl
theorem u_108_20 : PW B X 108 20 lv (st) h Q ↔ PW B X 108 21 lv (.int 0 :: st) h Q := PW_step rfl rfl rfl rfl
theorem u_108_21 : PW B X 108 21 [v0, v1, v2, v3] (.int x :: st) h Q ↔ PW B X 108 22 [v0, v1, pm_c v2, some (.int x)] (st) h Q := PW_step rfl rfl rfl rfl
theorem u_108_22 : PW B X 108 22 [v0, v1, v2, some (.int x)] (st) h Q ↔ PW B X 108 23 [v0, v1, v2, some (.int x)] (.int x :: st) h Q := PW_step rfl rfl rfl rfl
theorem u_108_23 : PW B X 108 23 [some (.ref a), v1, v2, v3] (st) h Q ↔ PW B X 108 24 [some (.ref a), v1, v2, v3] (.ref a :: st) h Q := PW_step rfl rfl rfl rfl
theorem u_108_23n : PW B X 108 23 [some .null, v1, v2, v3] (st) h Q ↔ PW B X 108 24 [some .null, v1, v2, v3] (.null :: st) h Q := PW_step rfl rfl rfl rfl
theorem u_108_24 : PW B X 108 24 lv (.ref a :: st) h Q ↔ pm_O (pm_gf (pm_at B h a) 10 10) (fun v => PW B X 108 27 lv (v :: st) h Q) := PW_getf rfl rfl
theorem u_108_27 : PW B X 108 27 lv (.int y :: .int x :: st) h Q ↔ (if y ≤ x then PW B X 108 100 lv (st) h Q else PW B X 108 30 lv (st) h Q) := PW_icmp rfl rfl pm_c_ge
theorem u_108_30 : PW B X 108 30 [some (.ref a), v1, v2, v3] (st) h Q ↔ PW B X 108 31 [some (.ref a), v1, v2, v3] (.ref a :: st) h Q := PW_step rfl rfl rfl rfl
theorem u_108_30n : PW B X 108 30 [some .null, v1, v2, v3] (st) h Q ↔ PW B X 108 31 [some .null, v1, v2, v3] (.null :: st) h Q := PW_step rfl rfl rfl rfl
theorem u_108_31 : PW B X 108 31 [v0, v1, v2, some (.int x)] (st) h Q ↔ PW B X 108 32 [v0, v1, v2, some (.int x)] (.int x :: st) h Q := PW_step rfl rfl rfl rfl
theorem u_108_32 : PW B X 108 32 [v0, some (.int x), v2, v3] (st) h Q ↔ PW B X 108 33 [v0, some (.int x), v2, v3] (.int x :: st) h Q := PW_step rfl rfl rfl rfl
theorem u_108_33 : PW B X 108 33 [v0, v1, some (.int x), v3] (st) h Q ↔ PW B X 108 34 [v0, v1, some (.int x), v3] (.int x :: st) h Q := PW_step rfl rfl rfl rfl
theorem u_108_34 : PW B X 108 34 lv (st) h Q ↔ PW B X 108 35 lv (.int 0 :: st) h Q := PW_step rfl rfl rfl rfl
theorem u_108_35 : PW B X 108 35 lv (.int q3 :: .int q2 :: .int q1 :: .int q0 :: .ref a :: st) h Q ↔ (pm_w st ≤ 8 ∧ pm_io B h a 10 = true ∧ PW B X 110 0 [some (.ref a), some (.int q0), some (.int q1), some (.int q2), some (.int q3), none, none, none, none] [] h (fun r h' => PW B X 108 38 lv (r.toList ++ st) h' Q)) := PW_cv (y := 110) (as := [.int q0, .int q1, .int q2, .int q3]) (rest := st) rfl rfl rfl rfl rfl ⟨Nat.le_of_ble_eq_true rfl, Nat.le_of_ble_eq_true rfl, Nat.le_of_ble_eq_true rfl⟩
theorem u_108_38 : PW B X 108 38 [v0, v1, v2, some (.int x)] (st) h Q ↔ PW B X 108 39 [v0, v1, v2, some (.int x)] (.int x :: st) h Q := PW_step rfl rfl rfl rfl
theorem u_108_39 : PW B X 108 39 lv (.int x :: st) h Q ↔ (if x = 0 then PW B X 108 51 lv (st) h Q else PW B X 108 42 lv (st) h Q) := PW_if rfl rfl pm_c_eq
theorem u_108_42 : PW B X 108 42 [some (.ref a), v1, v2, v3] (st) h Q ↔ PW B X 108 43 [some (.ref a), v1, v2, v3] (.ref a :: st) h Q := PW_step rfl rfl rfl rfl
theorem u_108_42n : PW B X 108 42 [some .null, v1, v2, v3] (st) h Q ↔ PW B X 108 43 [some .null, v1, v2, v3] (.null :: st) h Q := PW_step rfl rfl rfl rfl
theorem u_108_43 : PW B X 108 43 lv (st) h Q ↔ PW B X 108 44 lv (.int 2 :: st) h Q := PW_step rfl rfl rfl rfl
theorem u_108_44 : PW B X 108 44 lv (st) h Q ↔ PW B X 108 45 lv (.int 0 :: st) h Q := PW_step rfl rfl rfl rfl
theorem u_108_45 : PW B X 108 45 lv (.int q1 :: .int q0 :: .ref a :: st) h Q ↔ (pm_w st ≤ 8 ∧ pm_io B h a 10 = true ∧ PW B X 121 0 [some (.ref a), some (.int q0), some (.int q1)] [] h (fun r h' => PW B X 108 48 lv (r.toList ++ st) h' Q)) := PW_cv (y := 121) (as := [.int q0, .int q1]) (rest := st) rfl rfl rfl rfl rfl ⟨Nat.le_of_ble_eq_true rfl, Nat.le_of_ble_eq_true rfl, Nat.le_of_ble_eq_true rfl⟩
theorem u_108_48 : PW B X 108 48 lv (.int x :: st) h Q ↔ (if 0 ≤ x then PW B X 108 62 lv (st) h Q else PW B X 108 51 lv (st) h Q) := PW_if rfl rfl pm_c_ge
theorem u_108_51 : PW B X 108 51 [some (.ref a), v1, v2, v3] (st) h Q ↔ PW B X 108 52 [some (.ref a), v1, v2, v3] (.ref a :: st) h Q := PW_step rfl rfl rfl rfl
theorem u_108_51n : PW B X 108 51 [some .null, v1, v2, v3] (st) h Q ↔ PW B X 108 52 [some .null, v1, v2, v3] (.null :: st) h Q := PW_step rfl rfl rfl rfl
theorem u_108_52 : PW B X 108 52 lv (st) h Q ↔ PW B X 108 53 lv (.int 2 :: st) h Q := PW_step rfl rfl rfl rfl
theorem u_108_53 : PW B X 108 53 lv (st) h Q ↔ PW B X 108 54 lv (.int 0 :: st) h Q := PW_step rfl rfl rfl rfl
theorem u_108_54 : PW B X 108 54 lv (.int q1 :: .int q0 :: .ref a :: st) h Q ↔ (pm_w st ≤ 8 ∧ pm_io B h a 10 = true ∧ PW B X 118 0 [some (.ref a), some (.int q0), some (.int q1), none] [] h (fun r h' => PW B X 108 57 lv (r.toList ++ st) h' Q)) := PW_cv (y := 118) (as := [.int q0, .int q1]) (rest := st) rfl rfl rfl rfl rfl ⟨Nat.le_of_ble_eq_true rfl, Nat.le_of_ble_eq_true rfl, Nat.le_of_ble_eq_true rfl⟩
theorem u_108_57 : PW B X 108 57 [some (.ref a), v1, v2, v3] (st) h Q ↔ PW B X 108 58 [some (.ref a), v1, v2, v3] (.ref a :: st) h Q := PW_step rfl rfl rfl rfl
theorem u_108_57n : PW B X 108 57 [some .null, v1, v2, v3] (st) h Q ↔ PW B X 108 58 [some .null, v1, v2, v3] (.null :: st) h Q := PW_step rfl rfl rfl rfl
theorem u_108_58 : PW B X 108 58 [v0, v1, v2, some (.int x)] (st) h Q ↔ PW B X 108 59 [v0, v1, v2, some (.int x)] (.int x :: st) h Q := PW_step rfl rfl rfl rfl
theorem u_108_59 : PW B X 108 59 lv (v :: .ref a :: st) h Q ↔ pm_O (pm_pf (pm_at B h a) 10 31 v) (fun e => PW B X 108 62 lv (st) (pm_set B h a e) Q) := PW_putf rfl rfl
theorem u_108_62 : PW B X 108 62 [some (.ref a), v1, v2, v3] (st) h Q ↔ PW B X 108 63 [some (.ref a), v1, v2, v3] (.ref a :: st) h Q := PW_step rfl rfl rfl rfl
theorem u_108_62n : PW B X 108 62 [some .null, v1, v2, v3] (st) h Q ↔ PW B X 108 63 [some .null, v1, v2, v3] (.null :: st) h Q := PW_step rfl rfl rfl rfl
theorem u_108_63 : PW B X 108 63 [v0, v1, v2, some (.int x)] (st) h Q ↔ PW B X 108 64 [v0, v1, v2, some (.int x)] (.int x :: st) h Q := PW_step rfl rfl rfl rfl
theorem u_108_64 : PW B X 108 64 [v0, some (.int x), v2, v3] (st) h Q ↔ PW B X 108 65 [v0, some (.int x), v2, v3] (.int x :: st) h Q := PW_step rfl rfl rfl rfl
theorem u_108_65 : PW B X 108 65 [v0, v1, some (.int x), v3] (st) h Q ↔ PW B X 108 66 [v0, v1, some (.int x), v3] (.int x :: st) h Q := PW_step rfl rfl rfl rfl
theorem u_108_66 : PW B X 108 66 lv (st) h Q ↔ PW B X 108 67 lv (.int 1 :: st) h Q := PW_step rfl rfl rfl rfl
theorem u_108_67 : PW B X 108 67 lv (.int q3 :: .int q2 :: .int q1 :: .int q0 :: .ref a :: st) h Q ↔ (pm_w st ≤ 8 ∧ pm_io B h a 10 = true ∧ PW B X 110 0 [some (.ref a), some (.int q0), some (.int q1), some (.int q2), some (.int q3), none, none, none, none] [] h (fun r h' => PW B X 108 70 lv (r.toList ++ st) h' Q)) := PW_cv (y := 110) (as := [.int q0, .int q1, .int q2, .int q3]) (rest := st) rfl rfl rfl rfl rfl ⟨Nat.le_of_ble_eq_true rfl, Nat.le_of_ble_eq_true rfl, Nat.le_of_ble_eq_true rfl⟩
theorem u_108_70 : PW B X 108 70 [v0, v1, v2, some (.int x)] (st) h Q ↔ PW B X 108 71 [v0, v1, v2, some (.int x)] (.int x :: st) h Q := PW_step rfl rfl rfl rfl
theorem u_108_71 : PW B X 108 71 lv (.int x :: st) h Q ↔ (if x = 0 then PW B X 108 83 lv (st) h Q else PW B X 108 74 lv (st) h Q) := PW_if rfl rfl pm_c_eq
theorem u_108_74 : PW B X 108 74 [some (.ref a), v1, v2, v3] (st) h Q ↔ PW B X 108 75 [some (.ref a), v1, v2, v3] (.ref a :: st) h Q := PW_step rfl rfl rfl rfl
theorem u_108_74n : PW B X 108 74 [some .null, v1, v2, v3] (st) h Q ↔ PW B X 108 75 [some .null, v1, v2, v3] (.null :: st) h Q := PW_step rfl rfl rfl rfl
theorem u_108_75 : PW B X 108 75 lv (st) h Q ↔ PW B X 108 76 lv (.int 2 :: st) h Q := PW_step rfl rfl rfl rfl
theorem u_108_76 : PW B X 108 76 lv (st) h Q ↔ PW B X 108 77 lv (.int 1 :: st) h Q := PW_step rfl rfl rfl rfl
theorem u_108_77 : PW B X 108 77 lv (.int q1 :: .int q0 :: .ref a :: st) h Q ↔ (pm_w st ≤ 8 ∧ pm_io B h a 10 = true ∧ PW B X 121 0 [some (.ref a), some (.int q0), some (.int q1)] [] h (fun r h' => PW B X 108 80 lv (r.toList ++ st) h' Q)) := PW_cv (y := 121) (as := [.int q0, .int q1]) (rest := st) rfl rfl rfl rfl rfl ⟨Nat.le_of_ble_eq_true rfl, Nat.le_of_ble_eq_true rfl, Nat.le_of_ble_eq_true rfl⟩
theorem u_108_80 : PW B X 108 80 lv (.int x :: st) h Q ↔ (if x ≤ 0 then PW B X 108 94 lv (st) h Q else PW B X 108 83 lv (st) h Q) := PW_if rfl rfl pm_c_le
theorem u_108_83 : PW B X 108 83 [some (.ref a), v1, v2, v3] (st) h Q ↔ PW B X 108 84 [some (.ref a), v1, v2, v3] (.ref a :: st) h Q := PW_step rfl rfl rfl rfl
theorem u_108_83n : PW B X 108 83 [some .null, v1, v2, v3] (st) h Q ↔ PW B X 108 84 [some .null, v1, v2, v3] (.null :: st) h Q := PW_step rfl rfl rfl rfl
theorem u_108_84 : PW B X 108 84 lv (st) h Q ↔ PW B X 108 85 lv (.int 2 :: st) h Q := PW_step rfl rfl rfl rfl
theorem u_108_85 : PW B X 108 85 lv (st) h Q ↔ PW B X 108 86 lv (.int 1 :: st) h Q := PW_step rfl rfl rfl rfl
theorem u_108_86 : PW B X 108 86 lv (.int q1 :: .int q0 :: .ref a :: st) h Q ↔ (pm_w st ≤ 8 ∧ pm_io B h a 10 = true ∧ PW B X 118 0 [some (.ref a), some (.int q0), some (.int q1), none] [] h (fun r h' => PW B X 108 89 lv (r.toList ++ st) h' Q)) := PW_cv (y := 118) (as := [.int q0, .int q1]) (rest := st) rfl rfl rfl rfl rfl ⟨Nat.le_of_ble_eq_true rfl, Nat.le_of_ble_eq_true rfl, Nat.le_of_ble_eq_true rfl⟩
theorem u_108_89 : PW B X 108 89 [some (.ref a), v1, v2, v3] (st) h Q ↔ PW B X 108 90 [some (.ref a), v1, v2, v3] (.ref a :: st) h Q := PW_step rfl rfl rfl rfl
theorem u_108_89n : PW B X 108 89 [some .null, v1, v2, v3] (st) h Q ↔ PW B X 108 90 [some .null, v1, v2, v3] (.null :: st) h Q := PW_step rfl rfl rfl rfl
theorem u_108_90 : PW B X 108 90 [v0, v1, v2, some (.int x)] (st) h Q ↔ PW B X 108 91 [v0, v1, v2, some (.int x)] (.int x :: st) h Q := PW_step rfl rfl rfl rfl
theorem u_108_91 : PW B X 108 91 lv (v :: .ref a :: st) h Q ↔ pm_O (pm_pf (pm_at B h a) 10 32 v) (fun e => PW B X 108 94 lv (st) (pm_set B h a e) Q) := PW_putf rfl rfl
theorem u_108_94 : PW B X 108 94 [v0, v1, v2, some (.int x)] (st) h Q ↔ PW B X 108 97 [v0, v1, pm_c v2, some (.int (x + 1))] (st) h Q := PW_step rfl rfl rfl rfl
theorem u_108_97 : PW B X 108 97 lv (st) h Q ↔ PW B X 108 22 lv (st) h Q := PW_step rfl rfl rfl rfl
theorem u_108_100 : PW B X 108 100 lv ([]) h Q ↔ Q none h := PW_ret rfl rfl
-- 109 Ref_zero
theorem u_109_0 : PW B X 109 0 lv (st) h Q ↔ PW B X 109 1 lv (.int 0 :: st) h Q := PW_step rfl rfl rfl rfl
theorem u_109_1 : PW B X 109 1 [v0, v1, v2] (.int x :: st) h Q ↔ PW B X 109 2 [v0, pm_c v1, some (.int x)] (st) h Q := PW_step rfl rfl rfl rfl
theorem u_109_2 : PW B X 109 2 [v0, v1, some (.int x)] (st) h Q ↔ PW B X 109 3 [v0, v1, some (.int x)] (.int x :: st) h Q := PW_step rfl rfl rfl rfl
theorem u_109_3 : PW B X 109 3 lv (st) h Q ↔ PW B X 109 5 lv (.int 40 :: st) h Q := PW_step rfl rfl rfl rfl
theorem u_109_5 : PW B X 109 5 lv (.int y :: .int x :: st) h Q ↔ (if y ≤ x then PW B X 109 26 lv (st) h Q else PW B X 109 8 lv (st) h Q) := PW_icmp rfl rfl pm_c_ge
theorem u_109_8 : PW B X 109 8 [some (.ref a), v1, v2] (st) h Q ↔ PW B X 109 9 [some (.ref a), v1, v2] (.ref a :: st) h Q := PW_step rfl rfl rfl rfl
theorem u_109_8n : PW B X 109 8 [some .null, v1, v2] (st) h Q ↔ PW B X 109 9 [some .null, v1, v2] (.null :: st) h Q := PW_step rfl rfl rfl rfl
theorem u_109_9 : PW B X 109 9 lv (.ref a :: st) h Q ↔ pm_O (pm_gf (pm_at B h a) 10 27) (fun v => PW B X 109 12 lv (v :: st) h Q) := PW_getf rfl rfl
theorem u_109_12 : PW B X 109 12 lv (st) h Q ↔ PW B X 109 14 lv (.int 40 :: st) h Q := PW_step rfl rfl rfl rfl
theorem u_109_14 : PW B X 109 14 [v0, some (.int x), v2] (st) h Q ↔ PW B X 109 15 [v0, some (.int x), v2] (.int x :: st) h Q := PW_step rfl rfl rfl rfl
theorem u_109_15 : PW B X 109 15 lv (.int y :: .int x :: st) h Q ↔ PW B X 109 16 lv (.int (x * y) :: st) h Q := PW_step rfl rfl rfl rfl
theorem u_109_16 : PW B X 109 16 [v0, v1, some (.int x)] (st) h Q ↔ PW B X 109 17 [v0, v1, some (.int x)] (.int x :: st) h Q := PW_step rfl rfl rfl rfl
theorem u_109_17 : PW B X 109 17 lv (.int y :: .int x :: st) h Q ↔ PW B X 109 18 lv (.int (x + y) :: st) h Q := PW_step rfl rfl rfl rfl
theorem u_109_18 : PW B X 109 18 lv (st) h Q ↔ PW B X 109 19 lv (.long 0 :: st) h Q := PW_step rfl rfl rfl rfl
theorem u_109_19 : PW B X 109 19 lv (.long z :: .int x :: .ref a :: st) h Q ↔ pm_O (pm_stl (pm_at B h a) x z) (fun e => PW B X 109 20 lv (st) (pm_set B h a e) Q) := PW_last rfl
theorem u_109_20 : PW B X 109 20 [v0, v1, some (.int x)] (st) h Q ↔ PW B X 109 23 [v0, pm_c v1, some (.int (x + 1))] (st) h Q := PW_step rfl rfl rfl rfl
theorem u_109_23 : PW B X 109 23 lv (st) h Q ↔ PW B X 109 2 lv (st) h Q := PW_step rfl rfl rfl rfl
theorem u_109_26 : PW B X 109 26 lv (st) h Q ↔ PW B X 109 27 lv (.int 0 :: st) h Q := PW_step rfl rfl rfl rfl
theorem u_109_27 : PW B X 109 27 [v0, v1, v2] (.int x :: st) h Q ↔ PW B X 109 28 [v0, pm_c v1, some (.int x)] (st) h Q := PW_step rfl rfl rfl rfl
theorem u_109_28 : PW B X 109 28 [v0, v1, some (.int x)] (st) h Q ↔ PW B X 109 29 [v0, v1, some (.int x)] (.int x :: st) h Q := PW_step rfl rfl rfl rfl
theorem u_109_29 : PW B X 109 29 lv (st) h Q ↔ PW B X 109 32 lv (.int 168 :: st) h Q := PW_step rfl rfl rfl rfl
theorem u_109_32 : PW B X 109 32 lv (.int y :: .int x :: st) h Q ↔ (if y ≤ x then PW B X 109 54 lv (st) h Q else PW B X 109 35 lv (st) h Q) := PW_icmp rfl rfl pm_c_ge
theorem u_109_35 : PW B X 109 35 [some (.ref a), v1, v2] (st) h Q ↔ PW B X 109 36 [some (.ref a), v1, v2] (.ref a :: st) h Q := PW_step rfl rfl rfl rfl
theorem u_109_35n : PW B X 109 35 [some .null, v1, v2] (st) h Q ↔ PW B X 109 36 [some .null, v1, v2] (.null :: st) h Q := PW_step rfl rfl rfl rfl
theorem u_109_36 : PW B X 109 36 lv (.ref a :: st) h Q ↔ pm_O (pm_gf (pm_at B h a) 10 30) (fun v => PW B X 109 39 lv (v :: st) h Q) := PW_getf rfl rfl
theorem u_109_39 : PW B X 109 39 lv (st) h Q ↔ PW B X 109 42 lv (.int 168 :: st) h Q := PW_step rfl rfl rfl rfl
theorem u_109_42 : PW B X 109 42 [v0, some (.int x), v2] (st) h Q ↔ PW B X 109 43 [v0, some (.int x), v2] (.int x :: st) h Q := PW_step rfl rfl rfl rfl
theorem u_109_43 : PW B X 109 43 lv (.int y :: .int x :: st) h Q ↔ PW B X 109 44 lv (.int (x * y) :: st) h Q := PW_step rfl rfl rfl rfl
theorem u_109_44 : PW B X 109 44 [v0, v1, some (.int x)] (st) h Q ↔ PW B X 109 45 [v0, v1, some (.int x)] (.int x :: st) h Q := PW_step rfl rfl rfl rfl
theorem u_109_45 : PW B X 109 45 lv (.int y :: .int x :: st) h Q ↔ PW B X 109 46 lv (.int (x + y) :: st) h Q := PW_step rfl rfl rfl rfl
theorem u_109_46 : PW B X 109 46 lv (st) h Q ↔ PW B X 109 47 lv (.int 0 :: st) h Q := PW_step rfl rfl rfl rfl
theorem u_109_47 : PW B X 109 47 lv (.int y :: .int x :: .ref a :: st) h Q ↔ pm_O (pm_sti 0 (pm_at B h a) x y) (fun e => PW B X 109 48 lv (st) (pm_set B h a e) Q) := PW_iast rfl
theorem u_109_48 : PW B X 109 48 [v0, v1, some (.int x)] (st) h Q ↔ PW B X 109 51 [v0, pm_c v1, some (.int (x + 1))] (st) h Q := PW_step rfl rfl rfl rfl
theorem u_109_51 : PW B X 109 51 lv (st) h Q ↔ PW B X 109 28 lv (st) h Q := PW_step rfl rfl rfl rfl
theorem u_109_54 : PW B X 109 54 [some (.ref a), v1, v2] (st) h Q ↔ PW B X 109 55 [some (.ref a), v1, v2] (.ref a :: st) h Q := PW_step rfl rfl rfl rfl
theorem u_109_54n : PW B X 109 54 [some .null, v1, v2] (st) h Q ↔ PW B X 109 55 [some .null, v1, v2] (.null :: st) h Q := PW_step rfl rfl rfl rfl
theorem u_109_55 : PW B X 109 55 lv (.ref a :: st) h Q ↔ pm_O (pm_gf (pm_at B h a) 10 28) (fun v => PW B X 109 58 lv (v :: st) h Q) := PW_getf rfl rfl
theorem u_109_58 : PW B X 109 58 [v0, some (.int x), v2] (st) h Q ↔ PW B X 109 59 [v0, some (.int x), v2] (.int x :: st) h Q := PW_step rfl rfl rfl rfl
theorem u_109_59 : PW B X 109 59 lv (st) h Q ↔ PW B X 109 60 lv (.int 0 :: st) h Q := PW_step rfl rfl rfl rfl
theorem u_109_60 : PW B X 109 60 lv (.int y :: .int x :: .ref a :: st) h Q ↔ pm_O (pm_sti 0 (pm_at B h a) x y) (fun e => PW B X 109 61 lv (st) (pm_set B h a e) Q) := PW_iast rfl
theorem u_109_61 : PW B X 109 61 [some (.ref a), v1, v2] (st) h Q ↔ PW B X 109 62 [some (.ref a), v1, v2] (.ref a :: st) h Q := PW_step rfl rfl rfl rfl
theorem u_109_61n : PW B X 109 61 [some .null, v1, v2] (st) h Q ↔ PW B X 109 62 [some .null, v1, v2] (.null :: st) h Q := PW_step rfl rfl rfl rfl
theorem u_109_62 : PW B X 109 62 lv (.ref a :: st) h Q ↔ pm_O (pm_gf (pm_at B h a) 10 29) (fun v => PW B X 109 65 lv (v :: st) h Q) := PW_getf rfl rfl
theorem u_109_65 : PW B X 109 65 [v0, some (.int x), v2] (st) h Q ↔ PW B X 109 66 [v0, some (.int x), v2] (.int x :: st) h Q := PW_step rfl rfl rfl rfl
theorem u_109_66 : PW B X 109 66 lv (st) h Q ↔ PW B X 109 67 lv (.int 0 :: st) h Q := PW_step rfl rfl rfl rfl
theorem u_109_67 : PW B X 109 67 lv (.int y :: .int x :: .ref a :: st) h Q ↔ pm_O (pm_sti 0 (pm_at B h a) x y) (fun e => PW B X 109 68 lv (st) (pm_set B h a e) Q) := PW_iast rfl
theorem u_109_68 : PW B X 109 68 lv ([]) h Q ↔ Q none h := PW_ret rfl rfl
-- 110 Ref_sumRule
theorem u_110_0 : PW B X 110 0 [some (.ref a), v1, v2, v3, v4, v5, v6, v7, v8] (st) h Q ↔ PW B X 110 1 [some (.ref a), v1, v2, v3, v4, v5, v6, v7, v8] (.ref a :: st) h Q := PW_step rfl rfl rfl rfl
theorem u_110_0n : PW B X 110 0 [some .null, v1, v2, v3, v4, v5, v6, v7, v8] (st) h Q ↔ PW B X 110 1 [some .null, v1, v2, v3, v4, v5, v6, v7, v8] (.null :: st) h Q := PW_step rfl rfl rfl rfl
theorem u_110_1 : PW B X 110 1 lv (st) h Q ↔ PW B X 110 2 lv (.int 2 :: st) h Q := PW_step rfl rfl rfl rfl
theorem u_110_2 : PW B X 110 2 lv (.int q0 :: .ref a :: st) h Q ↔ (pm_w st ≤ 8 ∧ pm_io B h a 10 = true ∧ PW B X 109 0 [some (.ref a), some (.int q0), none] [] h (fun r h' => PW B X 110 5 lv (r.toList ++ st) h' Q)) := PW_cv (y := 109) (as := [.int q0]) (rest := st) rfl rfl rfl rfl rfl ⟨Nat.le_of_ble_eq_true rfl, Nat.le_of_ble_eq_true rfl, Nat.le_of_ble_eq_true rfl⟩
theorem u_110_5 : PW B X 110 5 lv (st) h Q ↔ PW B X 110 6 lv (.int 0 :: st) h Q := PW_step rfl rfl rfl rfl
theorem u_110_6 : PW B X 110 6 [v0, v1, v2, v3, v4, v5, v6, v7, v8] (.int x :: st) h Q ↔ PW B X 110 8 [v0, v1, v2, v3, pm_c v4, some (.int x), v6, v7, v8] (st) h Q := PW_step rfl rfl rfl rfl
theorem u_110_8 : PW B X 110 8 [v0, v1, v2, v3, v4, some (.int x), v6, v7, v8] (st) h Q ↔ PW B X 110 10 [v0, v1, v2, v3, v4, some (.int x), v6, v7, v8] (.int x :: st) h Q := PW_step rfl rfl rfl rfl
theorem u_110_10 : PW B X 110 10 [some (.ref a), v1, v2, v3, v4, v5, v6, v7, v8] (st) h Q ↔ PW B X 110 11 [some (.ref a), v1, v2, v3, v4, v5, v6, v7, v8] (.ref a :: st) h Q := PW_step rfl rfl rfl rfl
theorem u_110_10n : PW B X 110 10 [some .null, v1, v2, v3, v4, v5, v6, v7, v8] (st) h Q ↔ PW B X 110 11 [some .null, v1, v2, v3, v4, v5, v6, v7, v8] (.null :: st) h Q := PW_step rfl rfl rfl rfl
theorem u_110_11 : PW B X 110 11 lv (.ref a :: st) h Q ↔ pm_O (pm_gf (pm_at B h a) 10 11) (fun v => PW B X 110 14 lv (v :: st) h Q) := PW_getf rfl rfl
theorem u_110_14 : PW B X 110 14 [v0, some (.int x), v2, v3, v4, v5, v6, v7, v8] (st) h Q ↔ PW B X 110 15 [v0, some (.int x), v2, v3, v4, v5, v6, v7, v8] (.int x :: st) h Q := PW_step rfl rfl rfl rfl
theorem u_110_15 : PW B X 110 15 lv (.int x :: .ref a :: st) h Q ↔ pm_O (pm_ldi 0 (pm_at B h a) x) (fun v => PW B X 110 16 lv (v :: st) h Q) := PW_iald rfl rfl
theorem u_110_16 : PW B X 110 16 lv (.int y :: .int x :: st) h Q ↔ (if y ≤ x then PW B X 110 187 lv (st) h Q else PW B X 110 19 lv (st) h Q) := PW_icmp rfl rfl pm_c_ge
theorem u_110_19 : PW B X 110 19 lv (st) h Q ↔ PW B X 110 20 lv (.int 4 :: st) h Q := PW_step rfl rfl rfl rfl
theorem u_110_20 : PW B X 110 20 lv (st) h Q ↔ PW B X 110 22 lv (.int 6 :: st) h Q := PW_step rfl rfl rfl rfl
theorem u_110_22 : PW B X 110 22 [v0, some (.int x), v2, v3, v4, v5, v6, v7, v8] (st) h Q ↔ PW B X 110 23 [v0, some (.int x), v2, v3, v4, v5, v6, v7, v8] (.int x :: st) h Q := PW_step rfl rfl rfl rfl
theorem u_110_23 : PW B X 110 23 lv (.int y :: .int x :: st) h Q ↔ PW B X 110 24 lv (.int (x * y) :: st) h Q := PW_step rfl rfl rfl rfl
theorem u_110_24 : PW B X 110 24 [v0, v1, v2, v3, v4, some (.int x), v6, v7, v8] (st) h Q ↔ PW B X 110 26 [v0, v1, v2, v3, v4, some (.int x), v6, v7, v8] (.int x :: st) h Q := PW_step rfl rfl rfl rfl
theorem u_110_26 : PW B X 110 26 lv (.int y :: .int x :: st) h Q ↔ PW B X 110 27 lv (.int (x + y) :: st) h Q := PW_step rfl rfl rfl rfl
theorem u_110_27 : PW B X 110 27 lv (.int y :: .int x :: st) h Q ↔ PW B X 110 28 lv (.int (x * y) :: st) h Q := PW_step rfl rfl rfl rfl
theorem u_110_28 : PW B X 110 28 [v0, v1, v2, v3, v4, v5, v6, v7, v8] (.int x :: st) h Q ↔ PW B X 110 30 [v0, v1, v2, v3, v4, pm_c v5, some (.int x), v7, v8] (st) h Q := PW_step rfl rfl rfl rfl
theorem u_110_30 : PW B X 110 30 lv (st) h Q ↔ PW B X 110 31 lv (.int 3 :: st) h Q := PW_step rfl rfl rfl rfl
theorem u_110_31 : PW B X 110 31 lv (st) h Q ↔ PW B X 110 33 lv (.int 10 :: st) h Q := PW_step rfl rfl rfl rfl
theorem u_110_33 : PW B X 110 33 [some (.ref a), v1, v2, v3, v4, v5, v6, v7, v8] (st) h Q ↔ PW B X 110 34 [some (.ref a), v1, v2, v3, v4, v5, v6, v7, v8] (.ref a :: st) h Q := PW_step rfl rfl rfl rfl
theorem u_110_33n : PW B X 110 33 [some .null, v1, v2, v3, v4, v5, v6, v7, v8] (st) h Q ↔ PW B X 110 34 [some .null, v1, v2, v3, v4, v5, v6, v7, v8] (.null :: st) h Q := PW_step rfl rfl rfl rfl
theorem u_110_34 : PW B X 110 34 lv (.ref a :: st) h Q ↔ pm_O (pm_gf (pm_at B h a) 10 12) (fun v => PW B X 110 37 lv (v :: st) h Q) := PW_getf rfl rfl
theorem u_110_37 : PW B X 110 37 [v0, v1, v2, v3, v4, v5, some (.int x), v7, v8] (st) h Q ↔ PW B X 110 39 [v0, v1, v2, v3, v4, v5, some (.int x), v7, v8] (.int x :: st) h Q := PW_step rfl rfl rfl rfl
theorem u_110_39 : PW B X 110 39 lv (st) h Q ↔ PW B X 110 40 lv (.int 3 :: st) h Q := PW_step rfl rfl rfl rfl
theorem u_110_40 : PW B X 110 40 lv (.int y :: .int x :: st) h Q ↔ PW B X 110 41 lv (.int (x + y) :: st) h Q := PW_step rfl rfl rfl rfl
theorem u_110_41 : PW B X 110 41 lv (.int x :: .ref a :: st) h Q ↔ pm_O (pm_ldi 0 (pm_at B h a) x) (fun v => PW B X 110 42 lv (v :: st) h Q) := PW_iald rfl rfl
theorem u_110_42 : PW B X 110 42 lv (.int y :: .int x :: st) h Q ↔ PW B X 110 43 lv (.int (x * y) :: st) h Q := PW_step rfl rfl rfl rfl
theorem u_110_43 : PW B X 110 43 [v0, v1, some (.int x), v3, v4, v5, v6, v7, v8] (st) h Q ↔ PW B X 110 44 [v0, v1, some (.int x), v3, v4, v5, v6, v7, v8] (.int x :: st) h Q := PW_step rfl rfl rfl rfl
theorem u_110_44 : PW B X 110 44 lv (.int y :: .int x :: st) h Q ↔ PW B X 110 45 lv (.int (x + y) :: st) h Q := PW_step rfl rfl rfl rfl
theorem u_110_45 : PW B X 110 45 lv (.int y :: .int x :: st) h Q ↔ PW B X 110 46 lv (.int (x * y) :: st) h Q := PW_step rfl rfl rfl rfl
theorem u_110_46 : PW B X 110 46 [v0, v1, v2, some (.int x), v4, v5, v6, v7, v8] (st) h Q ↔ PW B X 110 47 [v0, v1, v2, some (.int x), v4, v5, v6, v7, v8] (.int x :: st) h Q := PW_step rfl rfl rfl rfl
theorem u_110_47 : PW B X 110 47 lv (.int y :: .int x :: st) h Q ↔ PW B X 110 48 lv (.int (x + y) :: st) h Q := PW_step rfl rfl rfl rfl
theorem u_110_48 : PW B X 110 48 [v0, v1, v2, v3, v4, v5, v6, v7, v8] (.int x :: st) h Q ↔ PW B X 110 50 [v0, v1, v2, v3, v4, v5, pm_c v6, some (.int x), v8] (st) h Q := PW_step rfl rfl rfl rfl
theorem u_110_50 : PW B X 110 50 [some (.ref a), v1, v2, v3, v4, v5, v6, v7, v8] (st) h Q ↔ PW B X 110 51 [some (.ref a), v1, v2, v3, v4, v5, v6, v7, v8] (.ref a :: st) h Q := PW_step rfl rfl rfl rfl
theorem u_110_50n : PW B X 110 50 [some .null, v1, v2, v3, v4, v5, v6, v7, v8] (st) h Q ↔ PW B X 110 51 [some .null, v1, v2, v3, v4, v5, v6, v7, v8] (.null :: st) h Q := PW_step rfl rfl rfl rfl
theorem u_110_51 : PW B X 110 51 lv (st) h Q ↔ PW B X 110 52 lv (.int 3 :: st) h Q := PW_step rfl rfl rfl rfl
theorem u_110_52 : PW B X 110 52 [some (.ref a), v1, v2, v3, v4, v5, v6, v7, v8] (st) h Q ↔ PW B X 110 53 [some (.ref a), v1, v2, v3, v4, v5, v6, v7, v8] (.ref a :: st) h Q := PW_step rfl rfl rfl rfl
theorem u_110_52n : PW B X 110 52 [some .null, v1, v2, v3, v4, v5, v6, v7, v8] (st) h Q ↔ PW B X 110 53 [some .null, v1, v2, v3, v4, v5, v6, v7, v8] (.null :: st) h Q := PW_step rfl rfl rfl rfl
theorem u_110_53 : PW B X 110 53 lv (.ref a :: st) h Q ↔ pm_O (pm_gf (pm_at B h a) 10 4) (fun v => PW B X 110 56 lv (v :: st) h Q) := PW_getf rfl rfl
theorem u_110_56 : PW B X 110 56 [v0, v1, v2, v3, v4, v5, v6, some (.int x), v8] (st) h Q ↔ PW B X 110 58 [v0, v1, v2, v3, v4, v5, v6, some (.int x), v8] (.int x :: st) h Q := PW_step rfl rfl rfl rfl
theorem u_110_58 : PW B X 110 58 lv (.int x :: .ref a :: st) h Q ↔ pm_O (pm_ldi 0 (pm_at B h a) x) (fun v => PW B X 110 59 lv (v :: st) h Q) := PW_iald rfl rfl
theorem u_110_59 : PW B X 110 59 lv (.int q1 :: .int q0 :: .ref a :: st) h Q ↔ (pm_w st ≤ 8 ∧ pm_io B h a 10 = true ∧ PW B X 111 0 [some (.ref a), some (.int q0), some (.int q1)] [] h (fun r h' => PW B X 110 62 lv (r.toList ++ st) h' Q)) := PW_cv (y := 111) (as := [.int q0, .int q1]) (rest := st) rfl rfl rfl rfl rfl ⟨Nat.le_of_ble_eq_true rfl, Nat.le_of_ble_eq_true rfl, Nat.le_of_ble_eq_true rfl⟩
theorem u_110_62 : PW B X 110 62 [some (.ref a), v1, v2, v3, v4, v5, v6, v7, v8] (st) h Q ↔ PW B X 110 63 [some (.ref a), v1, v2, v3, v4, v5, v6, v7, v8] (.ref a :: st) h Q := PW_step rfl rfl rfl rfl
theorem u_110_62n : PW B X 110 62 [some .null, v1, v2, v3, v4, v5, v6, v7, v8] (st) h Q ↔ PW B X 110 63 [some .null, v1, v2, v3, v4, v5, v6, v7, v8] (.null :: st) h Q := PW_step rfl rfl rfl rfl
theorem u_110_63 : PW B X 110 63 lv (st) h Q ↔ PW B X 110 64 lv (.int 3 :: st) h Q := PW_step rfl rfl rfl rfl
theorem u_110_64 : PW B X 110 64 [some (.ref a), v1, v2, v3, v4, v5, v6, v7, v8] (st) h Q ↔ PW B X 110 65 [some (.ref a), v1, v2, v3, v4, v5, v6, v7, v8] (.ref a :: st) h Q := PW_step rfl rfl rfl rfl
theorem u_110_64n : PW B X 110 64 [some .null, v1, v2, v3, v4, v5, v6, v7, v8] (st) h Q ↔ PW B X 110 65 [some .null, v1, v2, v3, v4, v5, v6, v7, v8] (.null :: st) h Q := PW_step rfl rfl rfl rfl
theorem u_110_65 : PW B X 110 65 lv (.ref a :: st) h Q ↔ pm_O (pm_gf (pm_at B h a) 10 12) (fun v => PW B X 110 68 lv (v :: st) h Q) := PW_getf rfl rfl
theorem u_110_68 : PW B X 110 68 [v0, v1, v2, v3, v4, v5, some (.int x), v7, v8] (st) h Q ↔ PW B X 110 70 [v0, v1, v2, v3, v4, v5, some (.int x), v7, v8] (.int x :: st) h Q := PW_step rfl rfl rfl rfl
theorem u_110_70 : PW B X 110 70 lv (st) h Q ↔ PW B X 110 71 lv (.int 1 :: st) h Q := PW_step rfl rfl rfl rfl
theorem u_110_71 : PW B X 110 71 lv (.int y :: .int x :: st) h Q ↔ PW B X 110 72 lv (.int (x + y) :: st) h Q := PW_step rfl rfl rfl rfl
theorem u_110_72 : PW B X 110 72 lv (.int x :: .ref a :: st) h Q ↔ pm_O (pm_ldi 0 (pm_at B h a) x) (fun v => PW B X 110 73 lv (v :: st) h Q) := PW_iald rfl rfl
theorem u_110_73 : PW B X 110 73 lv (.int q1 :: .int q0 :: .ref a :: st) h Q ↔ (pm_w st ≤ 8 ∧ pm_io B h a 10 = true ∧ PW B X 112 0 [some (.ref a), some (.int q0), some (.int q1), none, none, none, none, none] [] h (fun r h' => PW B X 110 76 lv (r.toList ++ st) h' Q)) := PW_cv (y := 112) (as := [.int q0, .int q1]) (rest := st) rfl rfl rfl rfl rfl ⟨Nat.le_of_ble_eq_true rfl, Nat.le_of_ble_eq_true rfl, Nat.le_of_ble_eq_true rfl⟩
theorem u_110_76 : PW B X 110 76 [some (.ref a), v1, v2, v3, v4, v5, v6, v7, v8] (st) h Q ↔ PW B X 110 77 [some (.ref a), v1, v2, v3, v4, v5, v6, v7, v8] (.ref a :: st) h Q := PW_step rfl rfl rfl rfl
theorem u_110_76n : PW B X 110 76 [some .null, v1, v2, v3, v4, v5, v6, v7, v8] (st) h Q ↔ PW B X 110 77 [some .null, v1, v2, v3, v4, v5, v6, v7, v8] (.null :: st) h Q := PW_step rfl rfl rfl rfl
theorem u_110_77 : PW B X 110 77 lv (st) h Q ↔ PW B X 110 78 lv (.int 3 :: st) h Q := PW_step rfl rfl rfl rfl
theorem u_110_78 : PW B X 110 78 [some (.ref a), v1, v2, v3, v4, v5, v6, v7, v8] (st) h Q ↔ PW B X 110 79 [some (.ref a), v1, v2, v3, v4, v5, v6, v7, v8] (.ref a :: st) h Q := PW_step rfl rfl rfl rfl
theorem u_110_78n : PW B X 110 78 [some .null, v1, v2, v3, v4, v5, v6, v7, v8] (st) h Q ↔ PW B X 110 79 [some .null, v1, v2, v3, v4, v5, v6, v7, v8] (.null :: st) h Q := PW_step rfl rfl rfl rfl
theorem u_110_79 : PW B X 110 79 lv (.ref a :: st) h Q ↔ pm_O (pm_gf (pm_at B h a) 10 5) (fun v => PW B X 110 82 lv (v :: st) h Q) := PW_getf rfl rfl
theorem u_110_82 : PW B X 110 82 [v0, v1, v2, v3, v4, v5, v6, some (.int x), v8] (st) h Q ↔ PW B X 110 84 [v0, v1, v2, v3, v4, v5, v6, some (.int x), v8] (.int x :: st) h Q := PW_step rfl rfl rfl rfl
theorem u_110_84 : PW B X 110 84 lv (.int x :: .ref a :: st) h Q ↔ pm_O (pm_ldi 0 (pm_at B h a) x) (fun v => PW B X 110 85 lv (v :: st) h Q) := PW_iald rfl rfl
theorem u_110_85 : PW B X 110 85 lv (.int q1 :: .int q0 :: .ref a :: st) h Q ↔ (pm_w st ≤ 8 ∧ pm_io B h a 10 = true ∧ PW B X 113 0 [some (.ref a), some (.int q0), some (.int q1), none, none] [] h (fun r h' => PW B X 110 88 lv (r.toList ++ st) h' Q)) := PW_cv (y := 113) (as := [.int q0, .int q1]) (rest := st) rfl rfl rfl rfl rfl ⟨Nat.le_of_ble_eq_true rfl, Nat.le_of_ble_eq_true rfl, Nat.le_of_ble_eq_true rfl⟩
theorem u_110_88 : PW B X 110 88 [some (.ref a), v1, v2, v3, v4, v5, v6, v7, v8] (st) h Q ↔ PW B X 110 89 [some (.ref a), v1, v2, v3, v4, v5, v6, v7, v8] (.ref a :: st) h Q := PW_step rfl rfl rfl rfl
theorem u_110_88n : PW B X 110 88 [some .null, v1, v2, v3, v4, v5, v6, v7, v8] (st) h Q ↔ PW B X 110 89 [some .null, v1, v2, v3, v4, v5, v6, v7, v8] (.null :: st) h Q := PW_step rfl rfl rfl rfl
theorem u_110_89 : PW B X 110 89 lv (st) h Q ↔ PW B X 110 90 lv (.int 3 :: st) h Q := PW_step rfl rfl rfl rfl
theorem u_110_90 : PW B X 110 90 [some (.ref a), v1, v2, v3, v4, v5, v6, v7, v8] (st) h Q ↔ PW B X 110 91 [some (.ref a), v1, v2, v3, v4, v5, v6, v7, v8] (.ref a :: st) h Q := PW_step rfl rfl rfl rfl
theorem u_110_90n : PW B X 110 90 [some .null, v1, v2, v3, v4, v5, v6, v7, v8] (st) h Q ↔ PW B X 110 91 [some .null, v1, v2, v3, v4, v5, v6, v7, v8] (.null :: st) h Q := PW_step rfl rfl rfl rfl
theorem u_110_91 : PW B X 110 91 lv (.ref a :: st) h Q ↔ pm_O (pm_gf (pm_at B h a) 10 12) (fun v => PW B X 110 94 lv (v :: st) h Q) := PW_getf rfl rfl
theorem u_110_94 : PW B X 110 94 [v0, v1, v2, v3, v4, v5, some (.int x), v7, v8] (st) h Q ↔ PW B X 110 96 [v0, v1, v2, v3, v4, v5, some (.int x), v7, v8] (.int x :: st) h Q := PW_step rfl rfl rfl rfl
theorem u_110_96 : PW B X 110 96 lv (st) h Q ↔ PW B X 110 97 lv (.int 2 :: st) h Q := PW_step rfl rfl rfl rfl
theorem u_110_97 : PW B X 110 97 lv (.int y :: .int x :: st) h Q ↔ PW B X 110 98 lv (.int (x + y) :: st) h Q := PW_step rfl rfl rfl rfl
theorem u_110_98 : PW B X 110 98 lv (.int x :: .ref a :: st) h Q ↔ pm_O (pm_ldi 0 (pm_at B h a) x) (fun v => PW B X 110 99 lv (v :: st) h Q) := PW_iald rfl rfl
theorem u_110_99 : PW B X 110 99 lv (.int q1 :: .int q0 :: .ref a :: st) h Q ↔ (pm_w st ≤ 8 ∧ pm_io B h a 10 = true ∧ PW B X 113 0 [some (.ref a), some (.int q0), some (.int q1), none, none] [] h (fun r h' => PW B X 110 102 lv (r.toList ++ st) h' Q)) := PW_cv (y := 113) (as := [.int q0, .int q1]) (rest := st) rfl rfl rfl rfl rfl ⟨Nat.le_of_ble_eq_true rfl, Nat.le_of_ble_eq_true rfl, Nat.le_of_ble_eq_true rfl⟩
theorem u_110_102 : PW B X 110 102 [some (.ref a), v1, v2, v3, v4, v5, v6, v7, v8] (st) h Q ↔ PW B X 110 103 [some (.ref a), v1, v2, v3, v4, v5, v6, v7, v8] (.ref a :: st) h Q := PW_step rfl rfl rfl rfl
theorem u_110_102n : PW B X 110 102 [some .null, v1, v2, v3, v4, v5, v6, v7, v8] (st) h Q ↔ PW B X 110 103 [some .null, v1, v2, v3, v4, v5, v6, v7, v8] (.null :: st) h Q := PW_step rfl rfl rfl rfl
theorem u_110_103 : PW B X 110 103 lv (st) h Q ↔ PW B X 110 104 lv (.int 3 :: st) h Q := PW_step rfl rfl rfl rfl
theorem u_110_104 : PW B X 110 104 lv (.int q0 :: .ref a :: st) h Q ↔ (pm_w st ≤ 8 ∧ pm_io B h a 10 = true ∧ PW B X 114 0 [some (.ref a), some (.int q0), none] [] h (fun r h' => PW B X 110 107 lv (r.toList ++ st) h' Q)) := PW_cv (y := 114) (as := [.int q0]) (rest := st) rfl rfl rfl rfl rfl ⟨Nat.le_of_ble_eq_true rfl, Nat.le_of_ble_eq_true rfl, Nat.le_of_ble_eq_true rfl⟩
theorem u_110_107 : PW B X 110 107 [some (.ref a), v1, v2, v3, v4, v5, v6, v7, v8] (st) h Q ↔ PW B X 110 108 [some (.ref a), v1, v2, v3, v4, v5, v6, v7, v8] (.ref a :: st) h Q := PW_step rfl rfl rfl rfl
theorem u_110_107n : PW B X 110 107 [some .null, v1, v2, v3, v4, v5, v6, v7, v8] (st) h Q ↔ PW B X 110 108 [some .null, v1, v2, v3, v4, v5, v6, v7, v8] (.null :: st) h Q := PW_step rfl rfl rfl rfl
theorem u_110_108 : PW B X 110 108 lv (.ref a :: st) h Q ↔ pm_O (pm_gf (pm_at B h a) 10 29) (fun v => PW B X 110 111 lv (v :: st) h Q) := PW_getf rfl rfl
theorem u_110_111 : PW B X 110 111 lv (st) h Q ↔ PW B X 110 112 lv (.int 3 :: st) h Q := PW_step rfl rfl rfl rfl
theorem u_110_112 : PW B X 110 112 lv (.int x :: .ref a :: st) h Q ↔ pm_O (pm_ldi 0 (pm_at B h a) x) (fun v => PW B X 110 113 lv (v :: st) h Q) := PW_iald rfl rfl
theorem u_110_113 : PW B X 110 113 [v0, v1, v2, v3, v4, v5, v6, v7, v8] (.int x :: st) h Q ↔ PW B X 110 115 [v0, v1, v2, v3, v4, v5, v6, pm_c v7, some (.int x)] (st) h Q := PW_step rfl rfl rfl rfl
theorem u_110_115 : PW B X 110 115 [some (.ref a), v1, v2, v3, v4, v5, v6, v7, v8] (st) h Q ↔ PW B X 110 116 [some (.ref a), v1, v2, v3, v4, v5, v6, v7, v8] (.ref a :: st) h Q := PW_step rfl rfl rfl rfl
theorem u_110_115n : PW B X 110 115 [some .null, v1, v2, v3, v4, v5, v6, v7, v8] (st) h Q ↔ PW B X 110 116 [some .null, v1, v2, v3, v4, v5, v6, v7, v8] (.null :: st) h Q := PW_step rfl rfl rfl rfl
theorem u_110_116 : PW B X 110 116 lv (.ref a :: st) h Q ↔ pm_O (pm_gf (pm_at B h a) 10 29) (fun v => PW B X 110 119 lv (v :: st) h Q) := PW_getf rfl rfl
theorem u_110_119 : PW B X 110 119 lv (st) h Q ↔ PW B X 110 120 lv (.int 3 :: st) h Q := PW_step rfl rfl rfl rfl
theorem u_110_120 : PW B X 110 120 [some (.ref a), v1, v2, v3, v4, v5, v6, v7, v8] (st) h Q ↔ PW B X 110 121 [some (.ref a), v1, v2, v3, v4, v5, v6, v7, v8] (.ref a :: st) h Q := PW_step rfl rfl rfl rfl
theorem u_110_120n : PW B X 110 120 [some .null, v1, v2, v3, v4, v5, v6, v7, v8] (st) h Q ↔ PW B X 110 121 [some .null, v1, v2, v3, v4, v5, v6, v7, v8] (.null :: st) h Q := PW_step rfl rfl rfl rfl
theorem u_110_121 : PW B X 110 121 lv (.ref a :: st) h Q ↔ pm_O (pm_gf (pm_at B h a) 10 12) (fun v => PW B X 110 124 lv (v :: st) h Q) := PW_getf rfl rfl
theorem u_110_124 : PW B X 110 124 [v0, v1, v2, v3, v4, v5, some (.int x), v7, v8] (st) h Q ↔ PW B X 110 126 [v0, v1, v2, v3, v4, v5, some (.int x), v7, v8] (.int x :: st) h Q := PW_step rfl rfl rfl rfl
theorem u_110_126 : PW B X 110 126 lv (.int x :: .ref a :: st) h Q ↔ pm_O (pm_ldi 0 (pm_at B h a) x) (fun v => PW B X 110 127 lv (v :: st) h Q) := PW_iald rfl rfl
theorem u_110_127 : PW B X 110 127 lv (st) h Q ↔ PW B X 110 129 lv (.int 43 :: st) h Q := PW_step rfl rfl rfl rfl
theorem u_110_129 : PW B X 110 129 lv (.int y :: .int x :: st) h Q ↔ (if ¬ x = y then PW B X 110 137 lv (st) h Q else PW B X 110 132 lv (st) h Q) := PW_icmp rfl rfl pm_c_ne
theorem u_110_132 : PW B X 110 132 [v0, v1, v2, v3, v4, v5, v6, v7, some (.int x)] (st) h Q ↔ PW B X 110 134 [v0, v1, v2, v3, v4, v5, v6, v7, some (.int x)] (.int x :: st) h Q := PW_step rfl rfl rfl rfl
theorem u_110_134 : PW B X 110 134 lv (st) h Q ↔ PW B X 110 174 lv (st) h Q := PW_step rfl rfl rfl rfl
theorem u_110_137 : PW B X 110 137 [some (.ref a), v1, v2, v3, v4, v5, v6, v7, v8] (st) h Q ↔ PW B X 110 138 [some (.ref a), v1, v2, v3, v4, v5, v6, v7, v8] (.ref a :: st) h Q := PW_step rfl rfl rfl rfl
theorem u_110_137n : PW B X 110 137 [some .null, v1, v2, v3, v4, v5, v6, v7, v8] (st) h Q ↔ PW B X 110 138 [some .null, v1, v2, v3, v4, v5, v6, v7, v8] (.null :: st) h Q := PW_step rfl rfl rfl rfl
theorem u_110_138 : PW B X 110 138 lv (.ref a :: st) h Q ↔ pm_O (pm_gf (pm_at B h a) 10 12) (fun v => PW B X 110 141 lv (v :: st) h Q) := PW_getf rfl rfl
theorem u_110_141 : PW B X 110 141 [v0, v1, v2, v3, v4, v5, some (.int x), v7, v8] (st) h Q ↔ PW B X 110 143 [v0, v1, v2, v3, v4, v5, some (.int x), v7, v8] (.int x :: st) h Q := PW_step rfl rfl rfl rfl
theorem u_110_143 : PW B X 110 143 lv (.int x :: .ref a :: st) h Q ↔ pm_O (pm_ldi 0 (pm_at B h a) x) (fun v => PW B X 110 144 lv (v :: st) h Q) := PW_iald rfl rfl
theorem u_110_144 : PW B X 110 144 lv (st) h Q ↔ PW B X 110 146 lv (.int 45 :: st) h Q := PW_step rfl rfl rfl rfl
theorem u_110_146 : PW B X 110 146 lv (.int y :: .int x :: st) h Q ↔ (if ¬ x = y then PW B X 110 155 lv (st) h Q else PW B X 110 149 lv (st) h Q) := PW_icmp rfl rfl pm_c_ne
theorem u_110_149 : PW B X 110 149 [v0, v1, v2, v3, v4, v5, v6, v7, some (.int x)] (st) h Q ↔ PW B X 110 151 [v0, v1, v2, v3, v4, v5, v6, v7, some (.int x)] (.int x :: st) h Q := PW_step rfl rfl rfl rfl
theorem u_110_151 : PW B X 110 151 lv (.int x :: st) h Q ↔ PW B X 110 152 lv (.int (-x) :: st) h Q := PW_step rfl rfl rfl rfl
theorem u_110_152 : PW B X 110 152 lv (st) h Q ↔ PW B X 110 174 lv (st) h Q := PW_step rfl rfl rfl rfl
theorem u_110_155 : PW B X 110 155 [v0, v1, v2, v3, v4, v5, v6, v7, some (.int x)] (st) h Q ↔ PW B X 110 157 [v0, v1, v2, v3, v4, v5, v6, v7, some (.int x)] (.int x :: st) h Q := PW_step rfl rfl rfl rfl
theorem u_110_157 : PW B X 110 157 lv (.int x :: st) h Q ↔ (if ¬ x = 0 then PW B X 110 164 lv (st) h Q else PW B X 110 160 lv (st) h Q) := PW_if rfl rfl pm_c_ne
theorem u_110_160 : PW B X 110 160 lv (st) h Q ↔ PW B X 110 161 lv (.int 0 :: st) h Q := PW_step rfl rfl rfl rfl
theorem u_110_161 : PW B X 110 161 lv (st) h Q ↔ PW B X 110 174 lv (st) h Q := PW_step rfl rfl rfl rfl
theorem u_110_164 : PW B X 110 164 [v0, v1, v2, v3, some (.int x), v5, v6, v7, v8] (st) h Q ↔ PW B X 110 166 [v0, v1, v2, v3, some (.int x), v5, v6, v7, v8] (.int x :: st) h Q := PW_step rfl rfl rfl rfl
theorem u_110_166 : PW B X 110 166 lv (.int x :: st) h Q ↔ (if x = 0 then PW B X 110 173 lv (st) h Q else PW B X 110 169 lv (st) h Q) := PW_if rfl rfl pm_c_eq
theorem u_110_169 : PW B X 110 169 lv (st) h Q ↔ PW B X 110 170 lv (.int 1 :: st) h Q := PW_step rfl rfl rfl rfl
theorem u_110_170 : PW B X 110 170 lv (st) h Q ↔ PW B X 110 174 lv (st) h Q := PW_step rfl rfl rfl rfl
theorem u_110_173 : PW B X 110 173 lv (st) h Q ↔ PW B X 110 174 lv (.int (-1) :: st) h Q := PW_step rfl rfl rfl rfl
theorem u_110_174 : PW B X 110 174 lv (.int y :: .int x :: .ref a :: st) h Q ↔ pm_O (pm_sti 0 (pm_at B h a) x y) (fun e => PW B X 110 175 lv (st) (pm_set B h a e) Q) := PW_iast rfl
theorem u_110_175 : PW B X 110 175 [some (.ref a), v1, v2, v3, v4, v5, v6, v7, v8] (st) h Q ↔ PW B X 110 176 [some (.ref a), v1, v2, v3, v4, v5, v6, v7, v8] (.ref a :: st) h Q := PW_step rfl rfl rfl rfl
theorem u_110_175n : PW B X 110 175 [some .null, v1, v2, v3, v4, v5, v6, v7, v8] (st) h Q ↔ PW B X 110 176 [some .null, v1, v2, v3, v4, v5, v6, v7, v8] (.null :: st) h Q := PW_step rfl rfl rfl rfl
theorem u_110_176 : PW B X 110 176 lv (st) h Q ↔ PW B X 110 177 lv (.int 2 :: st) h Q := PW_step rfl rfl rfl rfl
theorem u_110_177 : PW B X 110 177 lv (st) h Q ↔ PW B X 110 178 lv (.int 3 :: st) h Q := PW_step rfl rfl rfl rfl
theorem u_110_178 : PW B X 110 178 lv (.int q1 :: .int q0 :: .ref a :: st) h Q ↔ (pm_w st ≤ 8 ∧ pm_io B h a 10 = true ∧ PW B X 117 0 [some (.ref a), some (.int q0), some (.int q1), none, none, none, none, none, none, none, none, none] [] h (fun r h' => PW B X 110 181 lv (r.toList ++ st) h' Q)) := PW_cv (y := 117) (as := [.int q0, .int q1]) (rest := st) rfl rfl rfl rfl rfl ⟨Nat.le_of_ble_eq_true rfl, Nat.le_of_ble_eq_true rfl, Nat.le_of_ble_eq_true rfl⟩
theorem u_110_181 : PW B X 110 181 [v0, v1, v2, v3, v4, some (.int x), v6, v7, v8] (st) h Q ↔ PW B X 110 184 [v0, v1, v2, v3, pm_c v4, some (.int (x + 1)), v6, v7, v8] (st) h Q := PW_step rfl rfl rfl rfl
theorem u_110_184 : PW B X 110 184 lv (st) h Q ↔ PW B X 110 8 lv (st) h Q := PW_step rfl rfl rfl rfl
theorem u_110_187 : PW B X 110 187 lv ([]) h Q ↔ Q none h := PW_ret rfl rfl
-- 111 Ref_set
theorem u_111_0 : PW B X 111 0 [some (.ref a), v1, v2] (st) h Q ↔ PW B X 111 1 [some (.ref a), v1, v2] (.ref a :: st) h Q := PW_step rfl rfl rfl rfl
theorem u_111_0n : PW B X 111 0 [some .null, v1, v2] (st) h Q ↔ PW B X 111 1 [some .null, v1, v2] (.null :: st) h Q := PW_step rfl rfl rfl rfl
theorem u_111_1 : PW B X 111 1 [v0, some (.int x), v2] (st) h Q ↔ PW B X 111 2 [v0, some (.int x), v2] (.int x :: st) h Q := PW_step rfl rfl rfl rfl
theorem u_111_2 : PW B X 111 2 lv (.int q0 :: .ref a :: st) h Q ↔ (pm_w st ≤ 8 ∧ pm_io B h a 10 = true ∧ PW B X 109 0 [some (.ref a), some (.int q0), none] [] h (fun r h' => PW B X 111 5 lv (r.toList ++ st) h' Q)) := PW_cv (y := 109) (as := [.int q0]) (rest := st) rfl rfl rfl rfl rfl ⟨Nat.le_of_ble_eq_true rfl, Nat.le_of_ble_eq_true rfl, Nat.le_of_ble_eq_true rfl⟩
theorem u_111_5 : PW B X 111 5 [some (.ref a), v1, v2] (st) h Q ↔ PW B X 111 6 [some (.ref a), v1, v2] (.ref a :: st) h Q := PW_step rfl rfl rfl rfl
theorem u_111_5n : PW B X 111 5 [some .null, v1, v2] (st) h Q ↔ PW B X 111 6 [some .null, v1, v2] (.null :: st) h Q := PW_step rfl rfl rfl rfl
theorem u_111_6 : PW B X 111 6 lv (.ref a :: st) h Q ↔ pm_O (pm_gf (pm_at B h a) 10 27) (fun v => PW B X 111 9 lv (v :: st) h Q) := PW_getf rfl rfl
theorem u_111_9 : PW B X 111 9 lv (st) h Q ↔ PW B X 111 11 lv (.int 40 :: st) h Q := PW_step rfl rfl rfl rfl
theorem u_111_11 : PW B X 111 11 [v0, some (.int x), v2] (st) h Q ↔ PW B X 111 12 [v0, some (.int x), v2] (.int x :: st) h Q := PW_step rfl rfl rfl rfl
theorem u_111_12 : PW B X 111 12 lv (.int y :: .int x :: st) h Q ↔ PW B X 111 13 lv (.int (x * y) :: st) h Q := PW_step rfl rfl rfl rfl
theorem u_111_13 : PW B X 111 13 [v0, v1, some (.int x)] (st) h Q ↔ PW B X 111 14 [v0, v1, some (.int x)] (.int x :: st) h Q := PW_step rfl rfl rfl rfl
theorem u_111_14 : PW B X 111 14 lv (.int x :: st) h Q ↔ (if 0 ≤ x then PW B X 111 23 lv (st) h Q else PW B X 111 17 lv (st) h Q) := PW_if rfl rfl pm_c_ge
theorem u_111_17 : PW B X 111 17 [v0, v1, some (.int x)] (st) h Q ↔ PW B X 111 18 [v0, v1, some (.int x)] (.int x :: st) h Q := PW_step rfl rfl rfl rfl
theorem u_111_18 : PW B X 111 18 lv (.int x :: st) h Q ↔ PW B X 111 19 lv (.int (-x) :: st) h Q := PW_step rfl rfl rfl rfl
theorem u_111_19 : PW B X 111 19 lv (.int x :: st) h Q ↔ PW B X 111 20 lv (.long x.toInt64 :: st) h Q := PW_step rfl rfl rfl rfl
theorem u_111_20 : PW B X 111 20 lv (st) h Q ↔ PW B X 111 25 lv (st) h Q := PW_step rfl rfl rfl rfl
theorem u_111_23 : PW B X 111 23 [v0, v1, some (.int x)] (st) h Q ↔ PW B X 111 24 [v0, v1, some (.int x)] (.int x :: st) h Q := PW_step rfl rfl rfl rfl
theorem u_111_24 : PW B X 111 24 lv (.int x :: st) h Q ↔ PW B X 111 25 lv (.long x.toInt64 :: st) h Q := PW_step rfl rfl rfl rfl
theorem u_111_25 : PW B X 111 25 lv (.long z :: .int x :: .ref a :: st) h Q ↔ pm_O (pm_stl (pm_at B h a) x z) (fun e => PW B X 111 26 lv (st) (pm_set B h a e) Q) := PW_last rfl
theorem u_111_26 : PW B X 111 26 [some (.ref a), v1, v2] (st) h Q ↔ PW B X 111 27 [some (.ref a), v1, v2] (.ref a :: st) h Q := PW_step rfl rfl rfl rfl
theorem u_111_26n : PW B X 111 26 [some .null, v1, v2] (st) h Q ↔ PW B X 111 27 [some .null, v1, v2] (.null :: st) h Q := PW_step rfl rfl rfl rfl
theorem u_111_27 : PW B X 111 27 lv (.ref a :: st) h Q ↔ pm_O (pm_gf (pm_at B h a) 10 28) (fun v => PW B X 111 30 lv (v :: st) h Q) := PW_getf rfl rfl
theorem u_111_30 : PW B X 111 30 [v0, some (.int x), v2] (st) h Q ↔ PW B X 111 31 [v0, some (.int x), v2] (.int x :: st) h Q := PW_step rfl rfl rfl rfl
theorem u_111_31 : PW B X 111 31 [v0, v1, some (.int x)] (st) h Q ↔ PW B X 111 32 [v0, v1, some (.int x)] (.int x :: st) h Q := PW_step rfl rfl rfl rfl
theorem u_111_32 : PW B X 111 32 lv (.int x :: st) h Q ↔ (if ¬ x = 0 then PW B X 111 39 lv (st) h Q else PW B X 111 35 lv (st) h Q) := PW_if rfl rfl pm_c_ne
theorem u_111_35 : PW B X 111 35 lv (st) h Q ↔ PW B X 111 36 lv (.int 0 :: st) h Q := PW_step rfl rfl rfl rfl
theorem u_111_36 : PW B X 111 36 lv (st) h Q ↔ PW B X 111 40 lv (st) h Q := PW_step rfl rfl rfl rfl
theorem u_111_39 : PW B X 111 39 lv (st) h Q ↔ PW B X 111 40 lv (.int 1 :: st) h Q := PW_step rfl rfl rfl rfl
theorem u_111_40 : PW B X 111 40 lv (.int y :: .int x :: .ref a :: st) h Q ↔ pm_O (pm_sti 0 (pm_at B h a) x y) (fun e => PW B X 111 41 lv (st) (pm_set B h a e) Q) := PW_iast rfl
theorem u_111_41 : PW B X 111 41 [some (.ref a), v1, v2] (st) h Q ↔ PW B X 111 42 [some (.ref a), v1, v2] (.ref a :: st) h Q := PW_step rfl rfl rfl rfl
theorem u_111_41n : PW B X 111 41 [some .null, v1, v2] (st) h Q ↔ PW B X 111 42 [some .null, v1, v2] (.null :: st) h Q := PW_step rfl rfl rfl rfl
theorem u_111_42 : PW B X 111 42 lv (.ref a :: st) h Q ↔ pm_O (pm_gf (pm_at B h a) 10 29) (fun v => PW B X 111 45 lv (v :: st) h Q) := PW_getf rfl rfl
theorem u_111_45 : PW B X 111 45 [v0, some (.int x), v2] (st) h Q ↔ PW B X 111 46 [v0, some (.int x), v2] (.int x :: st) h Q := PW_step rfl rfl rfl rfl
theorem u_111_46 : PW B X 111 46 [v0, v1, some (.int x)] (st) h Q ↔ PW B X 111 47 [v0, v1, some (.int x)] (.int x :: st) h Q := PW_step rfl rfl rfl rfl
theorem u_111_47 : PW B X 111 47 lv (.int x :: st) h Q ↔ (if 0 ≤ x then PW B X 111 54 lv (st) h Q else PW B X 111 50 lv (st) h Q) := PW_if rfl rfl pm_c_ge
theorem u_111_50 : PW B X 111 50 lv (st) h Q ↔ PW B X 111 51 lv (.int (-1) :: st) h Q := PW_step rfl rfl rfl rfl
theorem u_111_51 : PW B X 111 51 lv (st) h Q ↔ PW B X 111 63 lv (st) h Q := PW_step rfl rfl rfl rfl
theorem u_111_54 : PW B X 111 54 [v0, v1, some (.int x)] (st) h Q ↔ PW B X 111 55 [v0, v1, some (.int x)] (.int x :: st) h Q := PW_step rfl rfl rfl rfl
theorem u_111_55 : PW B X 111 55 lv (.int x :: st) h Q ↔ (if x ≤ 0 then PW B X 111 62 lv (st) h Q else PW B X 111 58 lv (st) h Q) := PW_if rfl rfl pm_c_le
theorem u_111_58 : PW B X 111 58 lv (st) h Q ↔ PW B X 111 59 lv (.int 1 :: st) h Q := PW_step rfl rfl rfl rfl
theorem u_111_59 : PW B X 111 59 lv (st) h Q ↔ PW B X 111 63 lv (st) h Q := PW_step rfl rfl rfl rfl
theorem u_111_62 : PW B X 111 62 lv (st) h Q ↔ PW B X 111 63 lv (.int 0 :: st) h Q := PW_step rfl rfl rfl rfl
theorem u_111_63 : PW B X 111 63 lv (.int y :: .int x :: .ref a :: st) h Q ↔ pm_O (pm_sti 0 (pm_at B h a) x y) (fun e => PW B X 111 64 lv (st) (pm_set B h a e) Q) := PW_iast rfl
theorem u_111_64 : PW B X 111 64 lv ([]) h Q ↔ Q none h := PW_ret rfl rfl
-- 112 Ref_times
theorem u_112_0 : PW B X 112 0 lv (st) h Q ↔ PW B X 112 1 lv (.long 0 :: st) h Q := PW_step rfl rfl rfl rfl
theorem u_112_1 : PW B X 112 1 [v0, v1, v2, v3, v4, v5, v6, v7] (.long z :: st) h Q ↔ PW B X 112 2 [v0, v1, pm_c v2, some (.long z), none, v5, v6, v7] (st) h Q := PW_step rfl rfl rfl rfl
theorem u_112_2 : PW B X 112 2 lv (st) h Q ↔ PW B X 112 3 lv (.int 0 :: st) h Q := PW_step rfl rfl rfl rfl
theorem u_112_3 : PW B X 112 3 [v0, v1, v2, v3, v4, v5, v6, v7] (.int x :: st) h Q ↔ PW B X 112 5 [v0, v1, v2, v3, pm_c v4, some (.int x), v6, v7] (st) h Q := PW_step rfl rfl rfl rfl
theorem u_112_5 : PW B X 112 5 [v0, v1, v2, v3, v4, some (.int x), v6, v7] (st) h Q ↔ PW B X 112 7 [v0, v1, v2, v3, v4, some (.int x), v6, v7] (.int x :: st) h Q := PW_step rfl rfl rfl rfl
theorem u_112_7 : PW B X 112 7 [some (.ref a), v1, v2, v3, v4, v5, v6, v7] (st) h Q ↔ PW B X 112 8 [some (.ref a), v1, v2, v3, v4, v5, v6, v7] (.ref a :: st) h Q := PW_step rfl rfl rfl rfl
theorem u_112_7n : PW B X 112 7 [some .null, v1, v2, v3, v4, v5, v6, v7] (st) h Q ↔ PW B X 112 8 [some .null, v1, v2, v3, v4, v5, v6, v7] (.null :: st) h Q := PW_step rfl rfl rfl rfl
theorem u_112_8 : PW B X 112 8 lv (.ref a :: st) h Q ↔ pm_O (pm_gf (pm_at B h a) 10 28) (fun v => PW B X 112 11 lv (v :: st) h Q) := PW_getf rfl rfl
theorem u_112_11 : PW B X 112 11 [v0, some (.int x), v2, v3, v4, v5, v6, v7] (st) h Q ↔ PW B X 112 12 [v0, some (.int x), v2, v3, v4, v5, v6, v7] (.int x :: st) h Q := PW_step rfl rfl rfl rfl
theorem u_112_12 : PW B X 112 12 lv (.int x :: .ref a :: st) h Q ↔ pm_O (pm_ldi 0 (pm_at B h a) x) (fun v => PW B X 112 13 lv (v :: st) h Q) := PW_iald rfl rfl
theorem u_112_13 : PW B X 112 13 lv (.int y :: .int x :: st) h Q ↔ (if y ≤ x then PW B X 112 66 lv (st) h Q else PW B X 112 16 lv (st) h Q) := PW_icmp rfl rfl pm_c_ge
theorem u_112_16 : PW B X 112 16 [some (.ref a), v1, v2, v3, v4, v5, v6, v7] (st) h Q ↔ PW B X 112 17 [some (.ref a), v1, v2, v3, v4, v5, v6, v7] (.ref a :: st) h Q := PW_step rfl rfl rfl rfl
theorem u_112_16n : PW B X 112 16 [some .null, v1, v2, v3, v4, v5, v6, v7] (st) h Q ↔ PW B X 112 17 [some .null, v1, v2, v3, v4, v5, v6, v7] (.null :: st) h Q := PW_step rfl rfl rfl rfl
theorem u_112_17 : PW B X 112 17 lv (.ref a :: st) h Q ↔ pm_O (pm_gf (pm_at B h a) 10 27) (fun v => PW B X 112 20 lv (v :: st) h Q) := PW_getf rfl rfl
theorem u_112_20 : PW B X 112 20 lv (st) h Q ↔ PW B X 112 22 lv (.int 40 :: st) h Q := PW_step rfl rfl rfl rfl
theorem u_112_22 : PW B X 112 22 [v0, some (.int x), v2, v3, v4, v5, v6, v7] (st) h Q ↔ PW B X 112 23 [v0, some (.int x), v2, v3, v4, v5, v6, v7] (.int x :: st) h Q := PW_step rfl rfl rfl rfl
theorem u_112_23 : PW B X 112 23 lv (.int y :: .int x :: st) h Q ↔ PW B X 112 24 lv (.int (x * y) :: st) h Q := PW_step rfl rfl rfl rfl
theorem u_112_24 : PW B X 112 24 [v0, v1, v2, v3, v4, some (.int x), v6, v7] (st) h Q ↔ PW B X 112 26 [v0, v1, v2, v3, v4, some (.int x), v6, v7] (.int x :: st) h Q := PW_step rfl rfl rfl rfl
theorem u_112_26 : PW B X 112 26 lv (.int y :: .int x :: st) h Q ↔ PW B X 112 27 lv (.int (x + y) :: st) h Q := PW_step rfl rfl rfl rfl
theorem u_112_27 : PW B X 112 27 lv (.int x :: .ref a :: st) h Q ↔ pm_O (pm_ldl (pm_at B h a) x) (fun v => PW B X 112 28 lv (v :: st) h Q) := PW_lald rfl
theorem u_112_28 : PW B X 112 28 [v0, v1, some (.int x), v3, v4, v5, v6, v7] (st) h Q ↔ PW B X 112 29 [v0, v1, some (.int x), v3, v4, v5, v6, v7] (.int x :: st) h Q := PW_step rfl rfl rfl rfl
theorem u_112_29 : PW B X 112 29 lv (.int x :: st) h Q ↔ PW B X 112 30 lv (.long x.toInt64 :: st) h Q := PW_step rfl rfl rfl rfl
theorem u_112_30 : PW B X 112 30 lv (.long w :: .long z :: st) h Q ↔ PW B X 112 31 lv (.long (z * w) :: st) h Q := PW_step rfl rfl rfl rfl
theorem u_112_31 : PW B X 112 31 [v0, v1, v2, some (.long z), v4, v5, v6, v7] (st) h Q ↔ PW B X 112 32 [v0, v1, v2, some (.long z), v4, v5, v6, v7] (.long z :: st) h Q := PW_step rfl rfl rfl rfl
theorem u_112_32 : PW B X 112 32 lv (.long w :: .long z :: st) h Q ↔ PW B X 112 33 lv (.long (z + w) :: st) h Q := PW_step rfl rfl rfl rfl
theorem u_112_33 : PW B X 112 33 [v0, v1, v2, v3, v4, v5, v6, v7] (.long z :: st) h Q ↔ PW B X 112 35 [v0, v1, v2, v3, v4, pm_c v5, some (.long z), none] (st) h Q := PW_step rfl rfl rfl rfl
theorem u_112_35 : PW B X 112 35 [some (.ref a), v1, v2, v3, v4, v5, v6, v7] (st) h Q ↔ PW B X 112 36 [some (.ref a), v1, v2, v3, v4, v5, v6, v7] (.ref a :: st) h Q := PW_step rfl rfl rfl rfl
theorem u_112_35n : PW B X 112 35 [some .null, v1, v2, v3, v4, v5, v6, v7] (st) h Q ↔ PW B X 112 36 [some .null, v1, v2, v3, v4, v5, v6, v7] (.null :: st) h Q := PW_step rfl rfl rfl rfl
theorem u_112_36 : PW B X 112 36 lv (.ref a :: st) h Q ↔ pm_O (pm_gf (pm_at B h a) 10 27) (fun v => PW B X 112 39 lv (v :: st) h Q) := PW_getf rfl rfl
theorem u_112_39 : PW B X 112 39 lv (st) h Q ↔ PW B X 112 41 lv (.int 40 :: st) h Q := PW_step rfl rfl rfl rfl
theorem u_112_41 : PW B X 112 41 [v0, some (.int x), v2, v3, v4, v5, v6, v7] (st) h Q ↔ PW B X 112 42 [v0, some (.int x), v2, v3, v4, v5, v6, v7] (.int x :: st) h Q := PW_step rfl rfl rfl rfl
theorem u_112_42 : PW B X 112 42 lv (.int y :: .int x :: st) h Q ↔ PW B X 112 43 lv (.int (x * y) :: st) h Q := PW_step rfl rfl rfl rfl
theorem u_112_43 : PW B X 112 43 [v0, v1, v2, v3, v4, some (.int x), v6, v7] (st) h Q ↔ PW B X 112 45 [v0, v1, v2, v3, v4, some (.int x), v6, v7] (.int x :: st) h Q := PW_step rfl rfl rfl rfl
theorem u_112_45 : PW B X 112 45 lv (.int y :: .int x :: st) h Q ↔ PW B X 112 46 lv (.int (x + y) :: st) h Q := PW_step rfl rfl rfl rfl
theorem u_112_46 : PW B X 112 46 [v0, v1, v2, v3, v4, v5, some (.long z), v7] (st) h Q ↔ PW B X 112 48 [v0, v1, v2, v3, v4, v5, some (.long z), v7] (.long z :: st) h Q := PW_step rfl rfl rfl rfl
theorem u_112_48 : PW B X 112 48 lv (st) h Q ↔ PW B X 112 51 lv (.long 1000000000 :: st) h Q := PW_step rfl rfl rfl rfl
theorem u_112_51 : PW B X 112 51 lv (.long w :: .long z :: st) h Q ↔ (¬ w = 0 ∧ PW B X 112 52 lv (.long (z - z / w * w) :: st) h Q) := PW_lrem rfl
theorem u_112_52 : PW B X 112 52 lv (.long z :: .int x :: .ref a :: st) h Q ↔ pm_O (pm_stl (pm_at B h a) x z) (fun e => PW B X 112 53 lv (st) (pm_set B h a e) Q) := PW_last rfl
theorem u_112_53 : PW B X 112 53 [v0, v1, v2, v3, v4, v5, some (.long z), v7] (st) h Q ↔ PW B X 112 55 [v0, v1, v2, v3, v4, v5, some (.long z), v7] (.long z :: st) h Q := PW_step rfl rfl rfl rfl
theorem u_112_55 : PW B X 112 55 lv (st) h Q ↔ PW B X 112 58 lv (.long 1000000000 :: st) h Q := PW_step rfl rfl rfl rfl
theorem u_112_58 : PW B X 112 58 lv (.long w :: .long z :: st) h Q ↔ (¬ w = 0 ∧ PW B X 112 59 lv (.long (z / w) :: st) h Q) := PW_ldiv rfl
theorem u_112_59 : PW B X 112 59 [v0, v1, v2, v3, v4, v5, v6, v7] (.long z :: st) h Q ↔ PW B X 112 60 [v0, v1, pm_c v2, some (.long z), none, v5, v6, v7] (st) h Q := PW_step rfl rfl rfl rfl
theorem u_112_60 : PW B X 112 60 [v0, v1, v2, v3, v4, some (.int x), v6, v7] (st) h Q ↔ PW B X 112 63 [v0, v1, v2, v3, pm_c v4, some (.int (x + 1)), v6, v7] (st) h Q := PW_step rfl rfl rfl rfl
theorem u_112_63 : PW B X 112 63 lv (st) h Q ↔ PW B X 112 5 lv (st) h Q := PW_step rfl rfl rfl rfl
theorem u_112_66 : PW B X 112 66 [v0, v1, v2, some (.long z), v4, v5, v6, v7] (st) h Q ↔ PW B X 112 67 [v0, v1, v2, some (.long z), v4, v5, v6, v7] (.long z :: st) h Q := PW_step rfl rfl rfl rfl
theorem u_112_67 : PW B X 112 67 lv (st) h Q ↔ PW B X 112 68 lv (.long 0 :: st) h Q := PW_step rfl rfl rfl rfl
theorem u_112_68 : PW B X 112 68 lv (.long w :: .long z :: st) h Q ↔ PW B X 112 69 lv (.int (lg_cmp z w) :: st) h Q := PW_step rfl rfl rfl rfl
theorem u_112_69 : PW B X 112 69 lv (.int x :: st) h Q ↔ (if x ≤ 0 then PW B X 112 99 lv (st) h Q else PW B X 112 72 lv (st) h Q) := PW_if rfl rfl pm_c_le
theorem u_112_72 : PW B X 112 72 [some (.ref a), v1, v2, v3, v4, v5, v6, v7] (st) h Q ↔ PW B X 112 73 [some (.ref a), v1, v2, v3, v4, v5, v6, v7] (.ref a :: st) h Q := PW_step rfl rfl rfl rfl
theorem u_112_72n : PW B X 112 72 [some .null, v1, v2, v3, v4, v5, v6, v7] (st) h Q ↔ PW B X 112 73 [some .null, v1, v2, v3, v4, v5, v6, v7] (.null :: st) h Q := PW_step rfl rfl rfl rfl
theorem u_112_73 : PW B X 112 73 lv (.ref a :: st) h Q ↔ pm_O (pm_gf (pm_at B h a) 10 27) (fun v => PW B X 112 76 lv (v :: st) h Q) := PW_getf rfl rfl
theorem u_112_76 : PW B X 112 76 lv (st) h Q ↔ PW B X 112 78 lv (.int 40 :: st) h Q := PW_step rfl rfl rfl rfl
theorem u_112_78 : PW B X 112 78 [v0, some (.int x), v2, v3, v4, v5, v6, v7] (st) h Q ↔ PW B X 112 79 [v0, some (.int x), v2, v3, v4, v5, v6, v7] (.int x :: st) h Q := PW_step rfl rfl rfl rfl
theorem u_112_79 : PW B X 112 79 lv (.int y :: .int x :: st) h Q ↔ PW B X 112 80 lv (.int (x * y) :: st) h Q := PW_step rfl rfl rfl rfl
theorem u_112_80 : PW B X 112 80 [some (.ref a), v1, v2, v3, v4, v5, v6, v7] (st) h Q ↔ PW B X 112 81 [some (.ref a), v1, v2, v3, v4, v5, v6, v7] (.ref a :: st) h Q := PW_step rfl rfl rfl rfl
theorem u_112_80n : PW B X 112 80 [some .null, v1, v2, v3, v4, v5, v6, v7] (st) h Q ↔ PW B X 112 81 [some .null, v1, v2, v3, v4, v5, v6, v7] (.null :: st) h Q := PW_step rfl rfl rfl rfl
theorem u_112_81 : PW B X 112 81 lv (.ref a :: st) h Q ↔ pm_O (pm_gf (pm_at B h a) 10 28) (fun v => PW B X 112 84 lv (v :: st) h Q) := PW_getf rfl rfl
theorem u_112_84 : PW B X 112 84 [v0, some (.int x), v2, v3, v4, v5, v6, v7] (st) h Q ↔ PW B X 112 85 [v0, some (.int x), v2, v3, v4, v5, v6, v7] (.int x :: st) h Q := PW_step rfl rfl rfl rfl
theorem u_112_85 : PW B X 112 85 lv (.int x :: .ref a :: st) h Q ↔ pm_O (pm_ldi 0 (pm_at B h a) x) (fun v => PW B X 112 86 lv (v :: st) h Q) := PW_iald rfl rfl
theorem u_112_86 : PW B X 112 86 lv (.int y :: .int x :: st) h Q ↔ PW B X 112 87 lv (.int (x + y) :: st) h Q := PW_step rfl rfl rfl rfl
theorem u_112_87 : PW B X 112 87 [v0, v1, v2, some (.long z), v4, v5, v6, v7] (st) h Q ↔ PW B X 112 88 [v0, v1, v2, some (.long z), v4, v5, v6, v7] (.long z :: st) h Q := PW_step rfl rfl rfl rfl
theorem u_112_88 : PW B X 112 88 lv (.long z :: .int x :: .ref a :: st) h Q ↔ pm_O (pm_stl (pm_at B h a) x z) (fun e => PW B X 112 89 lv (st) (pm_set B h a e) Q) := PW_last rfl
theorem u_112_89 : PW B X 112 89 [some (.ref a), v1, v2, v3, v4, v5, v6, v7] (st) h Q ↔ PW B X 112 90 [some (.ref a), v1, v2, v3, v4, v5, v6, v7] (.ref a :: st) h Q := PW_step rfl rfl rfl rfl
theorem u_112_89n : PW B X 112 89 [some .null, v1, v2, v3, v4, v5, v6, v7] (st) h Q ↔ PW B X 112 90 [some .null, v1, v2, v3, v4, v5, v6, v7] (.null :: st) h Q := PW_step rfl rfl rfl rfl
theorem u_112_90 : PW B X 112 90 lv (.ref a :: st) h Q ↔ pm_O (pm_gf (pm_at B h a) 10 28) (fun v => PW B X 112 93 lv (v :: st) h Q) := PW_getf rfl rfl
theorem u_112_93 : PW B X 112 93 [v0, some (.int x), v2, v3, v4, v5, v6, v7] (st) h Q ↔ PW B X 112 94 [v0, some (.int x), v2, v3, v4, v5, v6, v7] (.int x :: st) h Q := PW_step rfl rfl rfl rfl
theorem u_112_94 : PW B X 112 94 lv (.int x :: .ref a :: st) h Q ↔ PW B X 112 95 lv (.int x :: .ref a :: .int x :: .ref a :: st) h Q := PW_step rfl rfl rfl rfl
theorem u_112_95 : PW B X 112 95 lv (.int x :: .ref a :: st) h Q ↔ pm_O (pm_ldi 0 (pm_at B h a) x) (fun v => PW B X 112 96 lv (v :: st) h Q) := PW_iald rfl rfl
theorem u_112_96 : PW B X 112 96 lv (st) h Q ↔ PW B X 112 97 lv (.int 1 :: st) h Q := PW_step rfl rfl rfl rfl
theorem u_112_97 : PW B X 112 97 lv (.int y :: .int x :: st) h Q ↔ PW B X 112 98 lv (.int (x + y) :: st) h Q := PW_step rfl rfl rfl rfl
theorem u_112_98 : PW B X 112 98 lv (.int y :: .int x :: .ref a :: st) h Q ↔ pm_O (pm_sti 0 (pm_at B h a) x y) (fun e => PW B X 112 99 lv (st) (pm_set B h a e) Q) := PW_iast rfl
theorem u_112_99 : PW B X 112 99 lv ([]) h Q ↔ Q none h := PW_ret rfl rfl
-- 113 Ref_under
theorem u_113_0 : PW B X 113 0 [v0, v1, some (.int x), v3, v4] (st) h Q ↔ PW B X 113 1 [v0, v1, some (.int x), v3, v4] (.int x :: st) h Q := PW_step rfl rfl rfl rfl
theorem u_113_1 : PW B X 113 1 [v0, v1, v2, v3, v4] (.int x :: st) h Q ↔ PW B X 113 2 [v0, v1, pm_c v2, some (.int x), v4] (st) h Q := PW_step rfl rfl rfl rfl
theorem u_113_2 : PW B X 113 2 lv (st) h Q ↔ PW B X 113 3 lv (.int 0 :: st) h Q := PW_step rfl rfl rfl rfl
theorem u_113_3 : PW B X 113 3 [v0, v1, v2, v3, v4] (.int x :: st) h Q ↔ PW B X 113 5 [v0, v1, v2, pm_c v3, some (.int x)] (st) h Q := PW_step rfl rfl rfl rfl
theorem u_113_5 : PW B X 113 5 [v0, v1, v2, v3, some (.int x)] (st) h Q ↔ PW B X 113 7 [v0, v1, v2, v3, some (.int x)] (.int x :: st) h Q := PW_step rfl rfl rfl rfl
theorem u_113_7 : PW B X 113 7 lv (st) h Q ↔ PW B X 113 10 lv (.int 168 :: st) h Q := PW_step rfl rfl rfl rfl
theorem u_113_10 : PW B X 113 10 lv (.int y :: .int x :: st) h Q ↔ (if y ≤ x then PW B X 113 61 lv (st) h Q else PW B X 113 13 lv (st) h Q) := PW_icmp rfl rfl pm_c_ge
theorem u_113_13 : PW B X 113 13 [v0, v1, v2, some (.int x), v4] (st) h Q ↔ PW B X 113 14 [v0, v1, v2, some (.int x), v4] (.int x :: st) h Q := PW_step rfl rfl rfl rfl
theorem u_113_14 : PW B X 113 14 [some (.ref a), v1, v2, v3, v4] (st) h Q ↔ PW B X 113 15 [some (.ref a), v1, v2, v3, v4] (.ref a :: st) h Q := PW_step rfl rfl rfl rfl
theorem u_113_14n : PW B X 113 14 [some .null, v1, v2, v3, v4] (st) h Q ↔ PW B X 113 15 [some .null, v1, v2, v3, v4] (.null :: st) h Q := PW_step rfl rfl rfl rfl
theorem u_113_15 : PW B X 113 15 lv (.ref a :: st) h Q ↔ pm_O (pm_gf (pm_at B h a) 10 26) (fun v => PW B X 113 18 lv (v :: st) h Q) := PW_getf rfl rfl
theorem u_113_18 : PW B X 113 18 [v0, v1, v2, v3, some (.int x)] (st) h Q ↔ PW B X 113 20 [v0, v1, v2, v3, some (.int x)] (.int x :: st) h Q := PW_step rfl rfl rfl rfl
theorem u_113_20 : PW B X 113 20 lv (.int x :: .ref a :: st) h Q ↔ pm_O (pm_ldi 0 (pm_at B h a) x) (fun v => PW B X 113 21 lv (v :: st) h Q) := PW_iald rfl rfl
theorem u_113_21 : PW B X 113 21 lv (.int y :: .int x :: st) h Q ↔ (¬ y = 0 ∧ PW B X 113 22 lv (.int (x - x / y * y) :: st) h Q) := PW_irem rfl
theorem u_113_22 : PW B X 113 22 lv (.int x :: st) h Q ↔ (if ¬ x = 0 then PW B X 113 55 lv (st) h Q else PW B X 113 25 lv (st) h Q) := PW_if rfl rfl pm_c_ne
theorem u_113_25 : PW B X 113 25 [some (.ref a), v1, v2, v3, v4] (st) h Q ↔ PW B X 113 26 [some (.ref a), v1, v2, v3, v4] (.ref a :: st) h Q := PW_step rfl rfl rfl rfl
theorem u_113_25n : PW B X 113 25 [some .null, v1, v2, v3, v4] (st) h Q ↔ PW B X 113 26 [some .null, v1, v2, v3, v4] (.null :: st) h Q := PW_step rfl rfl rfl rfl
theorem u_113_26 : PW B X 113 26 lv (.ref a :: st) h Q ↔ pm_O (pm_gf (pm_at B h a) 10 30) (fun v => PW B X 113 29 lv (v :: st) h Q) := PW_getf rfl rfl
theorem u_113_29 : PW B X 113 29 lv (st) h Q ↔ PW B X 113 32 lv (.int 168 :: st) h Q := PW_step rfl rfl rfl rfl
theorem u_113_32 : PW B X 113 32 [v0, some (.int x), v2, v3, v4] (st) h Q ↔ PW B X 113 33 [v0, some (.int x), v2, v3, v4] (.int x :: st) h Q := PW_step rfl rfl rfl rfl
theorem u_113_33 : PW B X 113 33 lv (.int y :: .int x :: st) h Q ↔ PW B X 113 34 lv (.int (x * y) :: st) h Q := PW_step rfl rfl rfl rfl
theorem u_113_34 : PW B X 113 34 [v0, v1, v2, v3, some (.int x)] (st) h Q ↔ PW B X 113 36 [v0, v1, v2, v3, some (.int x)] (.int x :: st) h Q := PW_step rfl rfl rfl rfl
theorem u_113_36 : PW B X 113 36 lv (.int y :: .int x :: st) h Q ↔ PW B X 113 37 lv (.int (x + y) :: st) h Q := PW_step rfl rfl rfl rfl
theorem u_113_37 : PW B X 113 37 lv (.int x :: .ref a :: st) h Q ↔ PW B X 113 38 lv (.int x :: .ref a :: .int x :: .ref a :: st) h Q := PW_step rfl rfl rfl rfl
theorem u_113_38 : PW B X 113 38 lv (.int x :: .ref a :: st) h Q ↔ pm_O (pm_ldi 0 (pm_at B h a) x) (fun v => PW B X 113 39 lv (v :: st) h Q) := PW_iald rfl rfl
theorem u_113_39 : PW B X 113 39 lv (st) h Q ↔ PW B X 113 40 lv (.int 1 :: st) h Q := PW_step rfl rfl rfl rfl
theorem u_113_40 : PW B X 113 40 lv (.int y :: .int x :: st) h Q ↔ PW B X 113 41 lv (.int (x + y) :: st) h Q := PW_step rfl rfl rfl rfl
theorem u_113_41 : PW B X 113 41 lv (.int y :: .int x :: .ref a :: st) h Q ↔ pm_O (pm_sti 0 (pm_at B h a) x y) (fun e => PW B X 113 42 lv (st) (pm_set B h a e) Q) := PW_iast rfl
theorem u_113_42 : PW B X 113 42 [v0, v1, v2, some (.int x), v4] (st) h Q ↔ PW B X 113 43 [v0, v1, v2, some (.int x), v4] (.int x :: st) h Q := PW_step rfl rfl rfl rfl
theorem u_113_43 : PW B X 113 43 [some (.ref a), v1, v2, v3, v4] (st) h Q ↔ PW B X 113 44 [some (.ref a), v1, v2, v3, v4] (.ref a :: st) h Q := PW_step rfl rfl rfl rfl
theorem u_113_43n : PW B X 113 43 [some .null, v1, v2, v3, v4] (st) h Q ↔ PW B X 113 44 [some .null, v1, v2, v3, v4] (.null :: st) h Q := PW_step rfl rfl rfl rfl
theorem u_113_44 : PW B X 113 44 lv (.ref a :: st) h Q ↔ pm_O (pm_gf (pm_at B h a) 10 26) (fun v => PW B X 113 47 lv (v :: st) h Q) := PW_getf rfl rfl
theorem u_113_47 : PW B X 113 47 [v0, v1, v2, v3, some (.int x)] (st) h Q ↔ PW B X 113 49 [v0, v1, v2, v3, some (.int x)] (.int x :: st) h Q := PW_step rfl rfl rfl rfl
theorem u_113_49 : PW B X 113 49 lv (.int x :: .ref a :: st) h Q ↔ pm_O (pm_ldi 0 (pm_at B h a) x) (fun v => PW B X 113 50 lv (v :: st) h Q) := PW_iald rfl rfl
theorem u_113_50 : PW B X 113 50 lv (.int y :: .int x :: st) h Q ↔ (¬ y = 0 ∧ PW B X 113 51 lv (.int (x / y) :: st) h Q) := PW_idiv rfl
theorem u_113_51 : PW B X 113 51 [v0, v1, v2, v3, v4] (.int x :: st) h Q ↔ PW B X 113 52 [v0, v1, pm_c v2, some (.int x), v4] (st) h Q := PW_step rfl rfl rfl rfl
theorem u_113_52 : PW B X 113 52 lv (st) h Q ↔ PW B X 113 13 lv (st) h Q := PW_step rfl rfl rfl rfl
theorem u_113_55 : PW B X 113 55 [v0, v1, v2, v3, some (.int x)] (st) h Q ↔ PW B X 113 58 [v0, v1, v2, pm_c v3, some (.int (x + 1))] (st) h Q := PW_step rfl rfl rfl rfl
theorem u_113_58 : PW B X 113 58 lv (st) h Q ↔ PW B X 113 5 lv (st) h Q := PW_step rfl rfl rfl rfl
theorem u_113_61 : PW B X 113 61 lv ([]) h Q ↔ Q none h := PW_ret rfl rfl
-- 114 Ref_reduce
theorem u_114_0 : PW B X 114 0 lv (st) h Q ↔ PW B X 114 1 lv (.int 0 :: st) h Q := PW_step rfl rfl rfl rfl
theorem u_114_1 : PW B X 114 1 [v0, v1, v2] (.int x :: st) h Q ↔ PW B X 114 2 [v0, pm_c v1, some (.int x)] (st) h Q := PW_step rfl rfl rfl rfl
theorem u_114_2 : PW B X 114 2 [v0, v1, some (.int x)] (st) h Q ↔ PW B X 114 3 [v0, v1, some (.int x)] (.int x :: st) h Q := PW_step rfl rfl rfl rfl
theorem u_114_3 : PW B X 114 3 lv (st) h Q ↔ PW B X 114 6 lv (.int 168 :: st) h Q := PW_step rfl rfl rfl rfl
theorem u_114_6 : PW B X 114 6 lv (.int y :: .int x :: st) h Q ↔ (if y ≤ x then PW B X 114 85 lv (st) h Q else PW B X 114 9 lv (st) h Q) := PW_icmp rfl rfl pm_c_ge
theorem u_114_9 : PW B X 114 9 [some (.ref a), v1, v2] (st) h Q ↔ PW B X 114 10 [some (.ref a), v1, v2] (.ref a :: st) h Q := PW_step rfl rfl rfl rfl
theorem u_114_9n : PW B X 114 9 [some .null, v1, v2] (st) h Q ↔ PW B X 114 10 [some .null, v1, v2] (.null :: st) h Q := PW_step rfl rfl rfl rfl
theorem u_114_10 : PW B X 114 10 lv (.ref a :: st) h Q ↔ pm_O (pm_gf (pm_at B h a) 10 28) (fun v => PW B X 114 13 lv (v :: st) h Q) := PW_getf rfl rfl
theorem u_114_13 : PW B X 114 13 [v0, some (.int x), v2] (st) h Q ↔ PW B X 114 14 [v0, some (.int x), v2] (.int x :: st) h Q := PW_step rfl rfl rfl rfl
theorem u_114_14 : PW B X 114 14 lv (.int x :: .ref a :: st) h Q ↔ pm_O (pm_ldi 0 (pm_at B h a) x) (fun v => PW B X 114 15 lv (v :: st) h Q) := PW_iald rfl rfl
theorem u_114_15 : PW B X 114 15 lv (.int x :: st) h Q ↔ (if ¬ x = 0 then PW B X 114 31 lv (st) h Q else PW B X 114 18 lv (st) h Q) := PW_if rfl rfl pm_c_ne
theorem u_114_18 : PW B X 114 18 [some (.ref a), v1, v2] (st) h Q ↔ PW B X 114 19 [some (.ref a), v1, v2] (.ref a :: st) h Q := PW_step rfl rfl rfl rfl
theorem u_114_18n : PW B X 114 18 [some .null, v1, v2] (st) h Q ↔ PW B X 114 19 [some .null, v1, v2] (.null :: st) h Q := PW_step rfl rfl rfl rfl
theorem u_114_19 : PW B X 114 19 lv (.ref a :: st) h Q ↔ pm_O (pm_gf (pm_at B h a) 10 30) (fun v => PW B X 114 22 lv (v :: st) h Q) := PW_getf rfl rfl
theorem u_114_22 : PW B X 114 22 lv (st) h Q ↔ PW B X 114 25 lv (.int 168 :: st) h Q := PW_step rfl rfl rfl rfl
theorem u_114_25 : PW B X 114 25 [v0, some (.int x), v2] (st) h Q ↔ PW B X 114 26 [v0, some (.int x), v2] (.int x :: st) h Q := PW_step rfl rfl rfl rfl
theorem u_114_26 : PW B X 114 26 lv (.int y :: .int x :: st) h Q ↔ PW B X 114 27 lv (.int (x * y) :: st) h Q := PW_step rfl rfl rfl rfl
theorem u_114_27 : PW B X 114 27 [v0, v1, some (.int x)] (st) h Q ↔ PW B X 114 28 [v0, v1, some (.int x)] (.int x :: st) h Q := PW_step rfl rfl rfl rfl
theorem u_114_28 : PW B X 114 28 lv (.int y :: .int x :: st) h Q ↔ PW B X 114 29 lv (.int (x + y) :: st) h Q := PW_step rfl rfl rfl rfl
theorem u_114_29 : PW B X 114 29 lv (st) h Q ↔ PW B X 114 30 lv (.int 0 :: st) h Q := PW_step rfl rfl rfl rfl
theorem u_114_30 : PW B X 114 30 lv (.int y :: .int x :: .ref a :: st) h Q ↔ pm_O (pm_sti 0 (pm_at B h a) x y) (fun e => PW B X 114 31 lv (st) (pm_set B h a e) Q) := PW_iast rfl
theorem u_114_31 : PW B X 114 31 [some (.ref a), v1, v2] (st) h Q ↔ PW B X 114 32 [some (.ref a), v1, v2] (.ref a :: st) h Q := PW_step rfl rfl rfl rfl
theorem u_114_31n : PW B X 114 31 [some .null, v1, v2] (st) h Q ↔ PW B X 114 32 [some .null, v1, v2] (.null :: st) h Q := PW_step rfl rfl rfl rfl
theorem u_114_32 : PW B X 114 32 lv (.ref a :: st) h Q ↔ pm_O (pm_gf (pm_at B h a) 10 30) (fun v => PW B X 114 35 lv (v :: st) h Q) := PW_getf rfl rfl
theorem u_114_35 : PW B X 114 35 lv (st) h Q ↔ PW B X 114 38 lv (.int 168 :: st) h Q := PW_step rfl rfl rfl rfl
theorem u_114_38 : PW B X 114 38 [v0, some (.int x), v2] (st) h Q ↔ PW B X 114 39 [v0, some (.int x), v2] (.int x :: st) h Q := PW_step rfl rfl rfl rfl
theorem u_114_39 : PW B X 114 39 lv (.int y :: .int x :: st) h Q ↔ PW B X 114 40 lv (.int (x * y) :: st) h Q := PW_step rfl rfl rfl rfl
theorem u_114_40 : PW B X 114 40 [v0, v1, some (.int x)] (st) h Q ↔ PW B X 114 41 [v0, v1, some (.int x)] (.int x :: st) h Q := PW_step rfl rfl rfl rfl
theorem u_114_41 : PW B X 114 41 lv (.int y :: .int x :: st) h Q ↔ PW B X 114 42 lv (.int (x + y) :: st) h Q := PW_step rfl rfl rfl rfl
theorem u_114_42 : PW B X 114 42 lv (.int x :: .ref a :: st) h Q ↔ pm_O (pm_ldi 0 (pm_at B h a) x) (fun v => PW B X 114 43 lv (v :: st) h Q) := PW_iald rfl rfl
theorem u_114_43 : PW B X 114 43 lv (.int x :: st) h Q ↔ (if x ≤ 0 then PW B X 114 79 lv (st) h Q else PW B X 114 46 lv (st) h Q) := PW_if rfl rfl pm_c_le
theorem u_114_46 : PW B X 114 46 [some (.ref a), v1, v2] (st) h Q ↔ PW B X 114 47 [some (.ref a), v1, v2] (.ref a :: st) h Q := PW_step rfl rfl rfl rfl
theorem u_114_46n : PW B X 114 46 [some .null, v1, v2] (st) h Q ↔ PW B X 114 47 [some .null, v1, v2] (.null :: st) h Q := PW_step rfl rfl rfl rfl
theorem u_114_47 : PW B X 114 47 [v0, some (.int x), v2] (st) h Q ↔ PW B X 114 48 [v0, some (.int x), v2] (.int x :: st) h Q := PW_step rfl rfl rfl rfl
theorem u_114_48 : PW B X 114 48 [some (.ref a), v1, v2] (st) h Q ↔ PW B X 114 49 [some (.ref a), v1, v2] (.ref a :: st) h Q := PW_step rfl rfl rfl rfl
theorem u_114_48n : PW B X 114 48 [some .null, v1, v2] (st) h Q ↔ PW B X 114 49 [some .null, v1, v2] (.null :: st) h Q := PW_step rfl rfl rfl rfl
theorem u_114_49 : PW B X 114 49 lv (.ref a :: st) h Q ↔ pm_O (pm_gf (pm_at B h a) 10 26) (fun v => PW B X 114 52 lv (v :: st) h Q) := PW_getf rfl rfl
theorem u_114_52 : PW B X 114 52 [v0, v1, some (.int x)] (st) h Q ↔ PW B X 114 53 [v0, v1, some (.int x)] (.int x :: st) h Q := PW_step rfl rfl rfl rfl
theorem u_114_53 : PW B X 114 53 lv (.int x :: .ref a :: st) h Q ↔ pm_O (pm_ldi 0 (pm_at B h a) x) (fun v => PW B X 114 54 lv (v :: st) h Q) := PW_iald rfl rfl
theorem u_114_54 : PW B X 114 54 lv (.int q1 :: .int q0 :: .ref a :: st) h Q ↔ (pm_w st ≤ 8 ∧ pm_io B h a 10 = true ∧ PW B X 115 0 [some (.ref a), some (.int q0), some (.int q1), none, none, none, none, none] [] h (fun r h' => PW B X 114 57 lv (r.toList ++ st) h' Q)) := PW_cv (y := 115) (as := [.int q0, .int q1]) (rest := st) rfl rfl rfl rfl rfl ⟨Nat.le_of_ble_eq_true rfl, Nat.le_of_ble_eq_true rfl, Nat.le_of_ble_eq_true rfl⟩
theorem u_114_57 : PW B X 114 57 lv (.int x :: st) h Q ↔ (if x = 0 then PW B X 114 79 lv (st) h Q else PW B X 114 60 lv (st) h Q) := PW_if rfl rfl pm_c_eq
theorem u_114_60 : PW B X 114 60 [some (.ref a), v1, v2] (st) h Q ↔ PW B X 114 61 [some (.ref a), v1, v2] (.ref a :: st) h Q := PW_step rfl rfl rfl rfl
theorem u_114_60n : PW B X 114 60 [some .null, v1, v2] (st) h Q ↔ PW B X 114 61 [some .null, v1, v2] (.null :: st) h Q := PW_step rfl rfl rfl rfl
theorem u_114_61 : PW B X 114 61 lv (.ref a :: st) h Q ↔ pm_O (pm_gf (pm_at B h a) 10 30) (fun v => PW B X 114 64 lv (v :: st) h Q) := PW_getf rfl rfl
theorem u_114_64 : PW B X 114 64 lv (st) h Q ↔ PW B X 114 67 lv (.int 168 :: st) h Q := PW_step rfl rfl rfl rfl
theorem u_114_67 : PW B X 114 67 [v0, some (.int x), v2] (st) h Q ↔ PW B X 114 68 [v0, some (.int x), v2] (.int x :: st) h Q := PW_step rfl rfl rfl rfl
theorem u_114_68 : PW B X 114 68 lv (.int y :: .int x :: st) h Q ↔ PW B X 114 69 lv (.int (x * y) :: st) h Q := PW_step rfl rfl rfl rfl
theorem u_114_69 : PW B X 114 69 [v0, v1, some (.int x)] (st) h Q ↔ PW B X 114 70 [v0, v1, some (.int x)] (.int x :: st) h Q := PW_step rfl rfl rfl rfl
theorem u_114_70 : PW B X 114 70 lv (.int y :: .int x :: st) h Q ↔ PW B X 114 71 lv (.int (x + y) :: st) h Q := PW_step rfl rfl rfl rfl
theorem u_114_71 : PW B X 114 71 lv (.int x :: .ref a :: st) h Q ↔ PW B X 114 72 lv (.int x :: .ref a :: .int x :: .ref a :: st) h Q := PW_step rfl rfl rfl rfl
theorem u_114_72 : PW B X 114 72 lv (.int x :: .ref a :: st) h Q ↔ pm_O (pm_ldi 0 (pm_at B h a) x) (fun v => PW B X 114 73 lv (v :: st) h Q) := PW_iald rfl rfl
theorem u_114_73 : PW B X 114 73 lv (st) h Q ↔ PW B X 114 74 lv (.int 1 :: st) h Q := PW_step rfl rfl rfl rfl
theorem u_114_74 : PW B X 114 74 lv (.int y :: .int x :: st) h Q ↔ PW B X 114 75 lv (.int (x - y) :: st) h Q := PW_step rfl rfl rfl rfl
theorem u_114_75 : PW B X 114 75 lv (.int y :: .int x :: .ref a :: st) h Q ↔ pm_O (pm_sti 0 (pm_at B h a) x y) (fun e => PW B X 114 76 lv (st) (pm_set B h a e) Q) := PW_iast rfl
theorem u_114_76 : PW B X 114 76 lv (st) h Q ↔ PW B X 114 31 lv (st) h Q := PW_step rfl rfl rfl rfl
theorem u_114_79 : PW B X 114 79 [v0, v1, some (.int x)] (st) h Q ↔ PW B X 114 82 [v0, pm_c v1, some (.int (x + 1))] (st) h Q := PW_step rfl rfl rfl rfl
theorem u_114_82 : PW B X 114 82 lv (st) h Q ↔ PW B X 114 2 lv (st) h Q := PW_step rfl rfl rfl rfl
theorem u_114_85 : PW B X 114 85 lv ([]) h Q ↔ Q none h := PW_ret rfl rfl
-- 115 Ref_divide
theorem u_115_0 : PW B X 115 0 lv (st) h Q ↔ PW B X 115 1 lv (.long 0 :: st) h Q := PW_step rfl rfl rfl rfl
theorem u_115_1 : PW B X 115 1 [v0, v1, v2, v3, v4, v5, v6, v7] (.long z :: st) h Q ↔ PW B X 115 2 [v0, v1, pm_c v2, some (.long z), none, v5, v6, v7] (st) h Q := PW_step rfl rfl rfl rfl
theorem u_115_2 : PW B X 115 2 [some (.ref a), v1, v2, v3, v4, v5, v6, v7] (st) h Q ↔ PW B X 115 3 [some (.ref a), v1, v2, v3, v4, v5, v6, v7] (.ref a :: st) h Q := PW_step rfl rfl rfl rfl
theorem u_115_2n : PW B X 115 2 [some .null, v1, v2, v3, v4, v5, v6, v7] (st) h Q ↔ PW B X 115 3 [some .null, v1, v2, v3, v4, v5, v6, v7] (.null :: st) h Q := PW_step rfl rfl rfl rfl
theorem u_115_3 : PW B X 115 3 lv (.ref a :: st) h Q ↔ pm_O (pm_gf (pm_at B h a) 10 28) (fun v => PW B X 115 6 lv (v :: st) h Q) := PW_getf rfl rfl
theorem u_115_6 : PW B X 115 6 [v0, some (.int x), v2, v3, v4, v5, v6, v7] (st) h Q ↔ PW B X 115 7 [v0, some (.int x), v2, v3, v4, v5, v6, v7] (.int x :: st) h Q := PW_step rfl rfl rfl rfl
theorem u_115_7 : PW B X 115 7 lv (.int x :: .ref a :: st) h Q ↔ pm_O (pm_ldi 0 (pm_at B h a) x) (fun v => PW B X 115 8 lv (v :: st) h Q) := PW_iald rfl rfl
theorem u_115_8 : PW B X 115 8 lv (st) h Q ↔ PW B X 115 9 lv (.int 1 :: st) h Q := PW_step rfl rfl rfl rfl
theorem u_115_9 : PW B X 115 9 lv (.int y :: .int x :: st) h Q ↔ PW B X 115 10 lv (.int (x - y) :: st) h Q := PW_step rfl rfl rfl rfl
theorem u_115_10 : PW B X 115 10 [v0, v1, v2, v3, v4, v5, v6, v7] (.int x :: st) h Q ↔ PW B X 115 12 [v0, v1, v2, v3, pm_c v4, some (.int x), v6, v7] (st) h Q := PW_step rfl rfl rfl rfl
theorem u_115_12 : PW B X 115 12 [v0, v1, v2, v3, v4, some (.int x), v6, v7] (st) h Q ↔ PW B X 115 14 [v0, v1, v2, v3, v4, some (.int x), v6, v7] (.int x :: st) h Q := PW_step rfl rfl rfl rfl
theorem u_115_14 : PW B X 115 14 lv (.int x :: st) h Q ↔ (if x < 0 then PW B X 115 45 lv (st) h Q else PW B X 115 17 lv (st) h Q) := PW_if rfl rfl pm_c_lt
theorem u_115_17 : PW B X 115 17 [v0, v1, v2, some (.long z), v4, v5, v6, v7] (st) h Q ↔ PW B X 115 18 [v0, v1, v2, some (.long z), v4, v5, v6, v7] (.long z :: st) h Q := PW_step rfl rfl rfl rfl
theorem u_115_18 : PW B X 115 18 lv (st) h Q ↔ PW B X 115 21 lv (.long 1000000000 :: st) h Q := PW_step rfl rfl rfl rfl
theorem u_115_21 : PW B X 115 21 lv (.long w :: .long z :: st) h Q ↔ PW B X 115 22 lv (.long (z * w) :: st) h Q := PW_step rfl rfl rfl rfl
theorem u_115_22 : PW B X 115 22 [some (.ref a), v1, v2, v3, v4, v5, v6, v7] (st) h Q ↔ PW B X 115 23 [some (.ref a), v1, v2, v3, v4, v5, v6, v7] (.ref a :: st) h Q := PW_step rfl rfl rfl rfl
theorem u_115_22n : PW B X 115 22 [some .null, v1, v2, v3, v4, v5, v6, v7] (st) h Q ↔ PW B X 115 23 [some .null, v1, v2, v3, v4, v5, v6, v7] (.null :: st) h Q := PW_step rfl rfl rfl rfl
theorem u_115_23 : PW B X 115 23 lv (.ref a :: st) h Q ↔ pm_O (pm_gf (pm_at B h a) 10 27) (fun v => PW B X 115 26 lv (v :: st) h Q) := PW_getf rfl rfl
theorem u_115_26 : PW B X 115 26 lv (st) h Q ↔ PW B X 115 28 lv (.int 40 :: st) h Q := PW_step rfl rfl rfl rfl
theorem u_115_28 : PW B X 115 28 [v0, some (.int x), v2, v3, v4, v5, v6, v7] (st) h Q ↔ PW B X 115 29 [v0, some (.int x), v2, v3, v4, v5, v6, v7] (.int x :: st) h Q := PW_step rfl rfl rfl rfl
theorem u_115_29 : PW B X 115 29 lv (.int y :: .int x :: st) h Q ↔ PW B X 115 30 lv (.int (x * y) :: st) h Q := PW_step rfl rfl rfl rfl
theorem u_115_30 : PW B X 115 30 [v0, v1, v2, v3, v4, some (.int x), v6, v7] (st) h Q ↔ PW B X 115 32 [v0, v1, v2, v3, v4, some (.int x), v6, v7] (.int x :: st) h Q := PW_step rfl rfl rfl rfl
theorem u_115_32 : PW B X 115 32 lv (.int y :: .int x :: st) h Q ↔ PW B X 115 33 lv (.int (x + y) :: st) h Q := PW_step rfl rfl rfl rfl
theorem u_115_33 : PW B X 115 33 lv (.int x :: .ref a :: st) h Q ↔ pm_O (pm_ldl (pm_at B h a) x) (fun v => PW B X 115 34 lv (v :: st) h Q) := PW_lald rfl
theorem u_115_34 : PW B X 115 34 lv (.long w :: .long z :: st) h Q ↔ PW B X 115 35 lv (.long (z + w) :: st) h Q := PW_step rfl rfl rfl rfl
theorem u_115_35 : PW B X 115 35 [v0, v1, some (.int x), v3, v4, v5, v6, v7] (st) h Q ↔ PW B X 115 36 [v0, v1, some (.int x), v3, v4, v5, v6, v7] (.int x :: st) h Q := PW_step rfl rfl rfl rfl
theorem u_115_36 : PW B X 115 36 lv (.int x :: st) h Q ↔ PW B X 115 37 lv (.long x.toInt64 :: st) h Q := PW_step rfl rfl rfl rfl
theorem u_115_37 : PW B X 115 37 lv (.long w :: .long z :: st) h Q ↔ (¬ w = 0 ∧ PW B X 115 38 lv (.long (z - z / w * w) :: st) h Q) := PW_lrem rfl
theorem u_115_38 : PW B X 115 38 [v0, v1, v2, v3, v4, v5, v6, v7] (.long z :: st) h Q ↔ PW B X 115 39 [v0, v1, pm_c v2, some (.long z), none, v5, v6, v7] (st) h Q := PW_step rfl rfl rfl rfl
theorem u_115_39 : PW B X 115 39 [v0, v1, v2, v3, v4, some (.int x), v6, v7] (st) h Q ↔ PW B X 115 42 [v0, v1, v2, v3, pm_c v4, some (.int (x + (-1))), v6, v7] (st) h Q := PW_step rfl rfl rfl rfl
theorem u_115_42 : PW B X 115 42 lv (st) h Q ↔ PW B X 115 12 lv (st) h Q := PW_step rfl rfl rfl rfl
theorem u_115_45 : PW B X 115 45 [v0, v1, v2, some (.long z), v4, v5, v6, v7] (st) h Q ↔ PW B X 115 46 [v0, v1, v2, some (.long z), v4, v5, v6, v7] (.long z :: st) h Q := PW_step rfl rfl rfl rfl
theorem u_115_46 : PW B X 115 46 lv (st) h Q ↔ PW B X 115 47 lv (.long 0 :: st) h Q := PW_step rfl rfl rfl rfl
theorem u_115_47 : PW B X 115 47 lv (.long w :: .long z :: st) h Q ↔ PW B X 115 48 lv (.int (lg_cmp z w) :: st) h Q := PW_step rfl rfl rfl rfl
theorem u_115_48 : PW B X 115 48 lv (.int x :: st) h Q ↔ (if x = 0 then PW B X 115 53 lv (st) h Q else PW B X 115 51 lv (st) h Q) := PW_if rfl rfl pm_c_eq
theorem u_115_51 : PW B X 115 51 lv (st) h Q ↔ PW B X 115 52 lv (.int 0 :: st) h Q := PW_step rfl rfl rfl rfl
theorem u_115_52 (hx : narrow .boolean (.int x) = .int x) : PW B X 115 52 lv ([.int x]) h Q ↔ Q (some (.int x)) h := PW_bret rfl rfl (by simp) hx
theorem u_115_52_0 : PW B X 115 52 lv ([.int 0]) h Q ↔ Q (some (.int 0)) h := u_115_52 rfl
theorem u_115_52_1 : PW B X 115 52 lv ([.int 1]) h Q ↔ Q (some (.int 1)) h := u_115_52 rfl
theorem u_115_53 : PW B X 115 53 [some (.ref a), v1, v2, v3, v4, v5, v6, v7] (st) h Q ↔ PW B X 115 54 [some (.ref a), v1, v2, v3, v4, v5, v6, v7] (.ref a :: st) h Q := PW_step rfl rfl rfl rfl
theorem u_115_53n : PW B X 115 53 [some .null, v1, v2, v3, v4, v5, v6, v7] (st) h Q ↔ PW B X 115 54 [some .null, v1, v2, v3, v4, v5, v6, v7] (.null :: st) h Q := PW_step rfl rfl rfl rfl
theorem u_115_54 : PW B X 115 54 lv (.ref a :: st) h Q ↔ pm_O (pm_gf (pm_at B h a) 10 28) (fun v => PW B X 115 57 lv (v :: st) h Q) := PW_getf rfl rfl
theorem u_115_57 : PW B X 115 57 [v0, some (.int x), v2, v3, v4, v5, v6, v7] (st) h Q ↔ PW B X 115 58 [v0, some (.int x), v2, v3, v4, v5, v6, v7] (.int x :: st) h Q := PW_step rfl rfl rfl rfl
theorem u_115_58 : PW B X 115 58 lv (.int x :: .ref a :: st) h Q ↔ pm_O (pm_ldi 0 (pm_at B h a) x) (fun v => PW B X 115 59 lv (v :: st) h Q) := PW_iald rfl rfl
theorem u_115_59 : PW B X 115 59 lv (st) h Q ↔ PW B X 115 60 lv (.int 1 :: st) h Q := PW_step rfl rfl rfl rfl
theorem u_115_60 : PW B X 115 60 lv (.int y :: .int x :: st) h Q ↔ PW B X 115 61 lv (.int (x - y) :: st) h Q := PW_step rfl rfl rfl rfl
theorem u_115_61 : PW B X 115 61 [v0, v1, v2, v3, v4, v5, v6, v7] (.int x :: st) h Q ↔ PW B X 115 63 [v0, v1, v2, v3, pm_c v4, some (.int x), v6, v7] (st) h Q := PW_step rfl rfl rfl rfl
theorem u_115_63 : PW B X 115 63 [v0, v1, v2, v3, v4, some (.int x), v6, v7] (st) h Q ↔ PW B X 115 65 [v0, v1, v2, v3, v4, some (.int x), v6, v7] (.int x :: st) h Q := PW_step rfl rfl rfl rfl
theorem u_115_65 : PW B X 115 65 lv (.int x :: st) h Q ↔ (if x < 0 then PW B X 115 117 lv (st) h Q else PW B X 115 68 lv (st) h Q) := PW_if rfl rfl pm_c_lt
theorem u_115_68 : PW B X 115 68 [v0, v1, v2, some (.long z), v4, v5, v6, v7] (st) h Q ↔ PW B X 115 69 [v0, v1, v2, some (.long z), v4, v5, v6, v7] (.long z :: st) h Q := PW_step rfl rfl rfl rfl
theorem u_115_69 : PW B X 115 69 lv (st) h Q ↔ PW B X 115 72 lv (.long 1000000000 :: st) h Q := PW_step rfl rfl rfl rfl
theorem u_115_72 : PW B X 115 72 lv (.long w :: .long z :: st) h Q ↔ PW B X 115 73 lv (.long (z * w) :: st) h Q := PW_step rfl rfl rfl rfl
theorem u_115_73 : PW B X 115 73 [some (.ref a), v1, v2, v3, v4, v5, v6, v7] (st) h Q ↔ PW B X 115 74 [some (.ref a), v1, v2, v3, v4, v5, v6, v7] (.ref a :: st) h Q := PW_step rfl rfl rfl rfl
theorem u_115_73n : PW B X 115 73 [some .null, v1, v2, v3, v4, v5, v6, v7] (st) h Q ↔ PW B X 115 74 [some .null, v1, v2, v3, v4, v5, v6, v7] (.null :: st) h Q := PW_step rfl rfl rfl rfl
theorem u_115_74 : PW B X 115 74 lv (.ref a :: st) h Q ↔ pm_O (pm_gf (pm_at B h a) 10 27) (fun v => PW B X 115 77 lv (v :: st) h Q) := PW_getf rfl rfl
theorem u_115_77 : PW B X 115 77 lv (st) h Q ↔ PW B X 115 79 lv (.int 40 :: st) h Q := PW_step rfl rfl rfl rfl
theorem u_115_79 : PW B X 115 79 [v0, some (.int x), v2, v3, v4, v5, v6, v7] (st) h Q ↔ PW B X 115 80 [v0, some (.int x), v2, v3, v4, v5, v6, v7] (.int x :: st) h Q := PW_step rfl rfl rfl rfl
theorem u_115_80 : PW B X 115 80 lv (.int y :: .int x :: st) h Q ↔ PW B X 115 81 lv (.int (x * y) :: st) h Q := PW_step rfl rfl rfl rfl
theorem u_115_81 : PW B X 115 81 [v0, v1, v2, v3, v4, some (.int x), v6, v7] (st) h Q ↔ PW B X 115 83 [v0, v1, v2, v3, v4, some (.int x), v6, v7] (.int x :: st) h Q := PW_step rfl rfl rfl rfl
theorem u_115_83 : PW B X 115 83 lv (.int y :: .int x :: st) h Q ↔ PW B X 115 84 lv (.int (x + y) :: st) h Q := PW_step rfl rfl rfl rfl
theorem u_115_84 : PW B X 115 84 lv (.int x :: .ref a :: st) h Q ↔ pm_O (pm_ldl (pm_at B h a) x) (fun v => PW B X 115 85 lv (v :: st) h Q) := PW_lald rfl
theorem u_115_85 : PW B X 115 85 lv (.long w :: .long z :: st) h Q ↔ PW B X 115 86 lv (.long (z + w) :: st) h Q := PW_step rfl rfl rfl rfl
theorem u_115_86 : PW B X 115 86 [v0, v1, v2, v3, v4, v5, v6, v7] (.long z :: st) h Q ↔ PW B X 115 88 [v0, v1, v2, v3, v4, pm_c v5, some (.long z), none] (st) h Q := PW_step rfl rfl rfl rfl
theorem u_115_88 : PW B X 115 88 [some (.ref a), v1, v2, v3, v4, v5, v6, v7] (st) h Q ↔ PW B X 115 89 [some (.ref a), v1, v2, v3, v4, v5, v6, v7] (.ref a :: st) h Q := PW_step rfl rfl rfl rfl
theorem u_115_88n : PW B X 115 88 [some .null, v1, v2, v3, v4, v5, v6, v7] (st) h Q ↔ PW B X 115 89 [some .null, v1, v2, v3, v4, v5, v6, v7] (.null :: st) h Q := PW_step rfl rfl rfl rfl
theorem u_115_89 : PW B X 115 89 lv (.ref a :: st) h Q ↔ pm_O (pm_gf (pm_at B h a) 10 27) (fun v => PW B X 115 92 lv (v :: st) h Q) := PW_getf rfl rfl
theorem u_115_92 : PW B X 115 92 lv (st) h Q ↔ PW B X 115 94 lv (.int 40 :: st) h Q := PW_step rfl rfl rfl rfl
theorem u_115_94 : PW B X 115 94 [v0, some (.int x), v2, v3, v4, v5, v6, v7] (st) h Q ↔ PW B X 115 95 [v0, some (.int x), v2, v3, v4, v5, v6, v7] (.int x :: st) h Q := PW_step rfl rfl rfl rfl
theorem u_115_95 : PW B X 115 95 lv (.int y :: .int x :: st) h Q ↔ PW B X 115 96 lv (.int (x * y) :: st) h Q := PW_step rfl rfl rfl rfl
theorem u_115_96 : PW B X 115 96 [v0, v1, v2, v3, v4, some (.int x), v6, v7] (st) h Q ↔ PW B X 115 98 [v0, v1, v2, v3, v4, some (.int x), v6, v7] (.int x :: st) h Q := PW_step rfl rfl rfl rfl
theorem u_115_98 : PW B X 115 98 lv (.int y :: .int x :: st) h Q ↔ PW B X 115 99 lv (.int (x + y) :: st) h Q := PW_step rfl rfl rfl rfl
theorem u_115_99 : PW B X 115 99 [v0, v1, v2, v3, v4, v5, some (.long z), v7] (st) h Q ↔ PW B X 115 101 [v0, v1, v2, v3, v4, v5, some (.long z), v7] (.long z :: st) h Q := PW_step rfl rfl rfl rfl
theorem u_115_101 : PW B X 115 101 [v0, v1, some (.int x), v3, v4, v5, v6, v7] (st) h Q ↔ PW B X 115 102 [v0, v1, some (.int x), v3, v4, v5, v6, v7] (.int x :: st) h Q := PW_step rfl rfl rfl rfl
theorem u_115_102 : PW B X 115 102 lv (.int x :: st) h Q ↔ PW B X 115 103 lv (.long x.toInt64 :: st) h Q := PW_step rfl rfl rfl rfl
theorem u_115_103 : PW B X 115 103 lv (.long w :: .long z :: st) h Q ↔ (¬ w = 0 ∧ PW B X 115 104 lv (.long (z / w) :: st) h Q) := PW_ldiv rfl
theorem u_115_104 : PW B X 115 104 lv (.long z :: .int x :: .ref a :: st) h Q ↔ pm_O (pm_stl (pm_at B h a) x z) (fun e => PW B X 115 105 lv (st) (pm_set B h a e) Q) := PW_last rfl
theorem u_115_105 : PW B X 115 105 [v0, v1, v2, v3, v4, v5, some (.long z), v7] (st) h Q ↔ PW B X 115 107 [v0, v1, v2, v3, v4, v5, some (.long z), v7] (.long z :: st) h Q := PW_step rfl rfl rfl rfl
theorem u_115_107 : PW B X 115 107 [v0, v1, some (.int x), v3, v4, v5, v6, v7] (st) h Q ↔ PW B X 115 108 [v0, v1, some (.int x), v3, v4, v5, v6, v7] (.int x :: st) h Q := PW_step rfl rfl rfl rfl
theorem u_115_108 : PW B X 115 108 lv (.int x :: st) h Q ↔ PW B X 115 109 lv (.long x.toInt64 :: st) h Q := PW_step rfl rfl rfl rfl
theorem u_115_109 : PW B X 115 109 lv (.long w :: .long z :: st) h Q ↔ (¬ w = 0 ∧ PW B X 115 110 lv (.long (z - z / w * w) :: st) h Q) := PW_lrem rfl
theorem u_115_110 : PW B X 115 110 [v0, v1, v2, v3, v4, v5, v6, v7] (.long z :: st) h Q ↔ PW B X 115 111 [v0, v1, pm_c v2, some (.long z), none, v5, v6, v7] (st) h Q := PW_step rfl rfl rfl rfl
theorem u_115_111 : PW B X 115 111 [v0, v1, v2, v3, v4, some (.int x), v6, v7] (st) h Q ↔ PW B X 115 114 [v0, v1, v2, v3, pm_c v4, some (.int (x + (-1))), v6, v7] (st) h Q := PW_step rfl rfl rfl rfl
theorem u_115_114 : PW B X 115 114 lv (st) h Q ↔ PW B X 115 63 lv (st) h Q := PW_step rfl rfl rfl rfl
theorem u_115_117 : PW B X 115 117 [some (.ref a), v1, v2, v3, v4, v5, v6, v7] (st) h Q ↔ PW B X 115 118 [some (.ref a), v1, v2, v3, v4, v5, v6, v7] (.ref a :: st) h Q := PW_step rfl rfl rfl rfl
theorem u_115_117n : PW B X 115 117 [some .null, v1, v2, v3, v4, v5, v6, v7] (st) h Q ↔ PW B X 115 118 [some .null, v1, v2, v3, v4, v5, v6, v7] (.null :: st) h Q := PW_step rfl rfl rfl rfl
theorem u_115_118 : PW B X 115 118 [v0, some (.int x), v2, v3, v4, v5, v6, v7] (st) h Q ↔ PW B X 115 119 [v0, some (.int x), v2, v3, v4, v5, v6, v7] (.int x :: st) h Q := PW_step rfl rfl rfl rfl
theorem u_115_119 : PW B X 115 119 lv (.int q0 :: .ref a :: st) h Q ↔ (pm_w st ≤ 8 ∧ pm_io B h a 10 = true ∧ PW B X 116 0 [some (.ref a), some (.int q0)] [] h (fun r h' => PW B X 115 122 lv (r.toList ++ st) h' Q)) := PW_cv (y := 116) (as := [.int q0]) (rest := st) rfl rfl rfl rfl rfl ⟨Nat.le_of_ble_eq_true rfl, Nat.le_of_ble_eq_true rfl, Nat.le_of_ble_eq_true rfl⟩
theorem u_115_122 : PW B X 115 122 lv (st) h Q ↔ PW B X 115 123 lv (.int 1 :: st) h Q := PW_step rfl rfl rfl rfl
theorem u_115_123 (hx : narrow .boolean (.int x) = .int x) : PW B X 115 123 lv ([.int x]) h Q ↔ Q (some (.int x)) h := PW_bret rfl rfl (by simp) hx
theorem u_115_123_0 : PW B X 115 123 lv ([.int 0]) h Q ↔ Q (some (.int 0)) h := u_115_123 rfl
theorem u_115_123_1 : PW B X 115 123 lv ([.int 1]) h Q ↔ Q (some (.int 1)) h := u_115_123 rfl
-- 116 Ref_trim
theorem u_116_0 : PW B X 116 0 [some (.ref a), v1] (st) h Q ↔ PW B X 116 1 [some (.ref a), v1] (.ref a :: st) h Q := PW_step rfl rfl rfl rfl
theorem u_116_0n : PW B X 116 0 [some .null, v1] (st) h Q ↔ PW B X 116 1 [some .null, v1] (.null :: st) h Q := PW_step rfl rfl rfl rfl
theorem u_116_1 : PW B X 116 1 lv (.ref a :: st) h Q ↔ pm_O (pm_gf (pm_at B h a) 10 28) (fun v => PW B X 116 4 lv (v :: st) h Q) := PW_getf rfl rfl
theorem u_116_4 : PW B X 116 4 [v0, some (.int x)] (st) h Q ↔ PW B X 116 5 [v0, some (.int x)] (.int x :: st) h Q := PW_step rfl rfl rfl rfl
theorem u_116_5 : PW B X 116 5 lv (.int x :: .ref a :: st) h Q ↔ pm_O (pm_ldi 0 (pm_at B h a) x) (fun v => PW B X 116 6 lv (v :: st) h Q) := PW_iald rfl rfl
theorem u_116_6 : PW B X 116 6 lv (.int x :: st) h Q ↔ (if x ≤ 0 then PW B X 116 45 lv (st) h Q else PW B X 116 9 lv (st) h Q) := PW_if rfl rfl pm_c_le
theorem u_116_9 : PW B X 116 9 [some (.ref a), v1] (st) h Q ↔ PW B X 116 10 [some (.ref a), v1] (.ref a :: st) h Q := PW_step rfl rfl rfl rfl
theorem u_116_9n : PW B X 116 9 [some .null, v1] (st) h Q ↔ PW B X 116 10 [some .null, v1] (.null :: st) h Q := PW_step rfl rfl rfl rfl
theorem u_116_10 : PW B X 116 10 lv (.ref a :: st) h Q ↔ pm_O (pm_gf (pm_at B h a) 10 27) (fun v => PW B X 116 13 lv (v :: st) h Q) := PW_getf rfl rfl
theorem u_116_13 : PW B X 116 13 lv (st) h Q ↔ PW B X 116 15 lv (.int 40 :: st) h Q := PW_step rfl rfl rfl rfl
theorem u_116_15 : PW B X 116 15 [v0, some (.int x)] (st) h Q ↔ PW B X 116 16 [v0, some (.int x)] (.int x :: st) h Q := PW_step rfl rfl rfl rfl
theorem u_116_16 : PW B X 116 16 lv (.int y :: .int x :: st) h Q ↔ PW B X 116 17 lv (.int (x * y) :: st) h Q := PW_step rfl rfl rfl rfl
theorem u_116_17 : PW B X 116 17 [some (.ref a), v1] (st) h Q ↔ PW B X 116 18 [some (.ref a), v1] (.ref a :: st) h Q := PW_step rfl rfl rfl rfl
theorem u_116_17n : PW B X 116 17 [some .null, v1] (st) h Q ↔ PW B X 116 18 [some .null, v1] (.null :: st) h Q := PW_step rfl rfl rfl rfl
theorem u_116_18 : PW B X 116 18 lv (.ref a :: st) h Q ↔ pm_O (pm_gf (pm_at B h a) 10 28) (fun v => PW B X 116 21 lv (v :: st) h Q) := PW_getf rfl rfl
theorem u_116_21 : PW B X 116 21 [v0, some (.int x)] (st) h Q ↔ PW B X 116 22 [v0, some (.int x)] (.int x :: st) h Q := PW_step rfl rfl rfl rfl
theorem u_116_22 : PW B X 116 22 lv (.int x :: .ref a :: st) h Q ↔ pm_O (pm_ldi 0 (pm_at B h a) x) (fun v => PW B X 116 23 lv (v :: st) h Q) := PW_iald rfl rfl
theorem u_116_23 : PW B X 116 23 lv (.int y :: .int x :: st) h Q ↔ PW B X 116 24 lv (.int (x + y) :: st) h Q := PW_step rfl rfl rfl rfl
theorem u_116_24 : PW B X 116 24 lv (st) h Q ↔ PW B X 116 25 lv (.int 1 :: st) h Q := PW_step rfl rfl rfl rfl
theorem u_116_25 : PW B X 116 25 lv (.int y :: .int x :: st) h Q ↔ PW B X 116 26 lv (.int (x - y) :: st) h Q := PW_step rfl rfl rfl rfl
theorem u_116_26 : PW B X 116 26 lv (.int x :: .ref a :: st) h Q ↔ pm_O (pm_ldl (pm_at B h a) x) (fun v => PW B X 116 27 lv (v :: st) h Q) := PW_lald rfl
theorem u_116_27 : PW B X 116 27 lv (st) h Q ↔ PW B X 116 28 lv (.long 0 :: st) h Q := PW_step rfl rfl rfl rfl
theorem u_116_28 : PW B X 116 28 lv (.long w :: .long z :: st) h Q ↔ PW B X 116 29 lv (.int (lg_cmp z w) :: st) h Q := PW_step rfl rfl rfl rfl
theorem u_116_29 : PW B X 116 29 lv (.int x :: st) h Q ↔ (if ¬ x = 0 then PW B X 116 45 lv (st) h Q else PW B X 116 32 lv (st) h Q) := PW_if rfl rfl pm_c_ne
theorem u_116_32 : PW B X 116 32 [some (.ref a), v1] (st) h Q ↔ PW B X 116 33 [some (.ref a), v1] (.ref a :: st) h Q := PW_step rfl rfl rfl rfl
theorem u_116_32n : PW B X 116 32 [some .null, v1] (st) h Q ↔ PW B X 116 33 [some .null, v1] (.null :: st) h Q := PW_step rfl rfl rfl rfl
theorem u_116_33 : PW B X 116 33 lv (.ref a :: st) h Q ↔ pm_O (pm_gf (pm_at B h a) 10 28) (fun v => PW B X 116 36 lv (v :: st) h Q) := PW_getf rfl rfl
theorem u_116_36 : PW B X 116 36 [v0, some (.int x)] (st) h Q ↔ PW B X 116 37 [v0, some (.int x)] (.int x :: st) h Q := PW_step rfl rfl rfl rfl
theorem u_116_37 : PW B X 116 37 lv (.int x :: .ref a :: st) h Q ↔ PW B X 116 38 lv (.int x :: .ref a :: .int x :: .ref a :: st) h Q := PW_step rfl rfl rfl rfl
theorem u_116_38 : PW B X 116 38 lv (.int x :: .ref a :: st) h Q ↔ pm_O (pm_ldi 0 (pm_at B h a) x) (fun v => PW B X 116 39 lv (v :: st) h Q) := PW_iald rfl rfl
theorem u_116_39 : PW B X 116 39 lv (st) h Q ↔ PW B X 116 40 lv (.int 1 :: st) h Q := PW_step rfl rfl rfl rfl
theorem u_116_40 : PW B X 116 40 lv (.int y :: .int x :: st) h Q ↔ PW B X 116 41 lv (.int (x - y) :: st) h Q := PW_step rfl rfl rfl rfl
theorem u_116_41 : PW B X 116 41 lv (.int y :: .int x :: .ref a :: st) h Q ↔ pm_O (pm_sti 0 (pm_at B h a) x y) (fun e => PW B X 116 42 lv (st) (pm_set B h a e) Q) := PW_iast rfl
theorem u_116_42 : PW B X 116 42 lv (st) h Q ↔ PW B X 116 0 lv (st) h Q := PW_step rfl rfl rfl rfl
theorem u_116_45 : PW B X 116 45 [some (.ref a), v1] (st) h Q ↔ PW B X 116 46 [some (.ref a), v1] (.ref a :: st) h Q := PW_step rfl rfl rfl rfl
theorem u_116_45n : PW B X 116 45 [some .null, v1] (st) h Q ↔ PW B X 116 46 [some .null, v1] (.null :: st) h Q := PW_step rfl rfl rfl rfl
theorem u_116_46 : PW B X 116 46 lv (.ref a :: st) h Q ↔ pm_O (pm_gf (pm_at B h a) 10 29) (fun v => PW B X 116 49 lv (v :: st) h Q) := PW_getf rfl rfl
theorem u_116_49 : PW B X 116 49 [v0, some (.int x)] (st) h Q ↔ PW B X 116 50 [v0, some (.int x)] (.int x :: st) h Q := PW_step rfl rfl rfl rfl
theorem u_116_50 : PW B X 116 50 [some (.ref a), v1] (st) h Q ↔ PW B X 116 51 [some (.ref a), v1] (.ref a :: st) h Q := PW_step rfl rfl rfl rfl
theorem u_116_50n : PW B X 116 50 [some .null, v1] (st) h Q ↔ PW B X 116 51 [some .null, v1] (.null :: st) h Q := PW_step rfl rfl rfl rfl
theorem u_116_51 : PW B X 116 51 lv (.ref a :: st) h Q ↔ pm_O (pm_gf (pm_at B h a) 10 28) (fun v => PW B X 116 54 lv (v :: st) h Q) := PW_getf rfl rfl
theorem u_116_54 : PW B X 116 54 [v0, some (.int x)] (st) h Q ↔ PW B X 116 55 [v0, some (.int x)] (.int x :: st) h Q := PW_step rfl rfl rfl rfl
theorem u_116_55 : PW B X 116 55 lv (.int x :: .ref a :: st) h Q ↔ pm_O (pm_ldi 0 (pm_at B h a) x) (fun v => PW B X 116 56 lv (v :: st) h Q) := PW_iald rfl rfl
theorem u_116_56 : PW B X 116 56 lv (.int x :: st) h Q ↔ (if ¬ x = 0 then PW B X 116 63 lv (st) h Q else PW B X 116 59 lv (st) h Q) := PW_if rfl rfl pm_c_ne
theorem u_116_59 : PW B X 116 59 lv (st) h Q ↔ PW B X 116 60 lv (.int 0 :: st) h Q := PW_step rfl rfl rfl rfl
theorem u_116_60 : PW B X 116 60 lv (st) h Q ↔ PW B X 116 69 lv (st) h Q := PW_step rfl rfl rfl rfl
theorem u_116_63 : PW B X 116 63 [some (.ref a), v1] (st) h Q ↔ PW B X 116 64 [some (.ref a), v1] (.ref a :: st) h Q := PW_step rfl rfl rfl rfl
theorem u_116_63n : PW B X 116 63 [some .null, v1] (st) h Q ↔ PW B X 116 64 [some .null, v1] (.null :: st) h Q := PW_step rfl rfl rfl rfl
theorem u_116_64 : PW B X 116 64 lv (.ref a :: st) h Q ↔ pm_O (pm_gf (pm_at B h a) 10 29) (fun v => PW B X 116 67 lv (v :: st) h Q) := PW_getf rfl rfl
theorem u_116_67 : PW B X 116 67 [v0, some (.int x)] (st) h Q ↔ PW B X 116 68 [v0, some (.int x)] (.int x :: st) h Q := PW_step rfl rfl rfl rfl
theorem u_116_68 : PW B X 116 68 lv (.int x :: .ref a :: st) h Q ↔ pm_O (pm_ldi 0 (pm_at B h a) x) (fun v => PW B X 116 69 lv (v :: st) h Q) := PW_iald rfl rfl
theorem u_116_69 : PW B X 116 69 lv (.int y :: .int x :: .ref a :: st) h Q ↔ pm_O (pm_sti 0 (pm_at B h a) x y) (fun e => PW B X 116 70 lv (st) (pm_set B h a e) Q) := PW_iast rfl
theorem u_116_70 : PW B X 116 70 lv ([]) h Q ↔ Q none h := PW_ret rfl rfl
-- 117 Ref_add
theorem u_117_0 : PW B X 117 0 [some (.ref a), v1, v2, v3, v4, v5, v6, v7, v8, v9, v10, v11] (st) h Q ↔ PW B X 117 1 [some (.ref a), v1, v2, v3, v4, v5, v6, v7, v8, v9, v10, v11] (.ref a :: st) h Q := PW_step rfl rfl rfl rfl
theorem u_117_0n : PW B X 117 0 [some .null, v1, v2, v3, v4, v5, v6, v7, v8, v9, v10, v11] (st) h Q ↔ PW B X 117 1 [some .null, v1, v2, v3, v4, v5, v6, v7, v8, v9, v10, v11] (.null :: st) h Q := PW_step rfl rfl rfl rfl
theorem u_117_1 : PW B X 117 1 [v0, some (.int x), v2, v3, v4, v5, v6, v7, v8, v9, v10, v11] (st) h Q ↔ PW B X 117 2 [v0, some (.int x), v2, v3, v4, v5, v6, v7, v8, v9, v10, v11] (.int x :: st) h Q := PW_step rfl rfl rfl rfl
theorem u_117_2 : PW B X 117 2 lv (st) h Q ↔ PW B X 117 3 lv (.int 4 :: st) h Q := PW_step rfl rfl rfl rfl
theorem u_117_3 : PW B X 117 3 lv (.int q1 :: .int q0 :: .ref a :: st) h Q ↔ (pm_w st ≤ 8 ∧ pm_io B h a 10 = true ∧ PW B X 118 0 [some (.ref a), some (.int q0), some (.int q1), none] [] h (fun r h' => PW B X 117 6 lv (r.toList ++ st) h' Q)) := PW_cv (y := 118) (as := [.int q0, .int q1]) (rest := st) rfl rfl rfl rfl rfl ⟨Nat.le_of_ble_eq_true rfl, Nat.le_of_ble_eq_true rfl, Nat.le_of_ble_eq_true rfl⟩
theorem u_117_6 : PW B X 117 6 [some (.ref a), v1, v2, v3, v4, v5, v6, v7, v8, v9, v10, v11] (st) h Q ↔ PW B X 117 7 [some (.ref a), v1, v2, v3, v4, v5, v6, v7, v8, v9, v10, v11] (.ref a :: st) h Q := PW_step rfl rfl rfl rfl
theorem u_117_6n : PW B X 117 6 [some .null, v1, v2, v3, v4, v5, v6, v7, v8, v9, v10, v11] (st) h Q ↔ PW B X 117 7 [some .null, v1, v2, v3, v4, v5, v6, v7, v8, v9, v10, v11] (.null :: st) h Q := PW_step rfl rfl rfl rfl
theorem u_117_7 : PW B X 117 7 [v0, v1, some (.int x), v3, v4, v5, v6, v7, v8, v9, v10, v11] (st) h Q ↔ PW B X 117 8 [v0, v1, some (.int x), v3, v4, v5, v6, v7, v8, v9, v10, v11] (.int x :: st) h Q := PW_step rfl rfl rfl rfl
theorem u_117_8 : PW B X 117 8 lv (st) h Q ↔ PW B X 117 9 lv (.int 5 :: st) h Q := PW_step rfl rfl rfl rfl
theorem u_117_9 : PW B X 117 9 lv (.int q1 :: .int q0 :: .ref a :: st) h Q ↔ (pm_w st ≤ 8 ∧ pm_io B h a 10 = true ∧ PW B X 118 0 [some (.ref a), some (.int q0), some (.int q1), none] [] h (fun r h' => PW B X 117 12 lv (r.toList ++ st) h' Q)) := PW_cv (y := 118) (as := [.int q0, .int q1]) (rest := st) rfl rfl rfl rfl rfl ⟨Nat.le_of_ble_eq_true rfl, Nat.le_of_ble_eq_true rfl, Nat.le_of_ble_eq_true rfl⟩
theorem u_117_12 : PW B X 117 12 [some (.ref a), v1, v2, v3, v4, v5, v6, v7, v8, v9, v10, v11] (st) h Q ↔ PW B X 117 13 [some (.ref a), v1, v2, v3, v4, v5, v6, v7, v8, v9, v10, v11] (.ref a :: st) h Q := PW_step rfl rfl rfl rfl
theorem u_117_12n : PW B X 117 12 [some .null, v1, v2, v3, v4, v5, v6, v7, v8, v9, v10, v11] (st) h Q ↔ PW B X 117 13 [some .null, v1, v2, v3, v4, v5, v6, v7, v8, v9, v10, v11] (.null :: st) h Q := PW_step rfl rfl rfl rfl
theorem u_117_13 : PW B X 117 13 lv (st) h Q ↔ PW B X 117 14 lv (.int 4 :: st) h Q := PW_step rfl rfl rfl rfl
theorem u_117_14 : PW B X 117 14 lv (st) h Q ↔ PW B X 117 15 lv (.int 5 :: st) h Q := PW_step rfl rfl rfl rfl
theorem u_117_15 : PW B X 117 15 lv (.int q1 :: .int q0 :: .ref a :: st) h Q ↔ (pm_w st ≤ 8 ∧ pm_io B h a 10 = true ∧ PW B X 119 0 [some (.ref a), some (.int q0), some (.int q1), none] [] h (fun r h' => PW B X 117 18 lv (r.toList ++ st) h' Q)) := PW_cv (y := 119) (as := [.int q0, .int q1]) (rest := st) rfl rfl rfl rfl rfl ⟨Nat.le_of_ble_eq_true rfl, Nat.le_of_ble_eq_true rfl, Nat.le_of_ble_eq_true rfl⟩
theorem u_117_18 : PW B X 117 18 [some (.ref a), v1, v2, v3, v4, v5, v6, v7, v8, v9, v10, v11] (st) h Q ↔ PW B X 117 19 [some (.ref a), v1, v2, v3, v4, v5, v6, v7, v8, v9, v10, v11] (.ref a :: st) h Q := PW_step rfl rfl rfl rfl
theorem u_117_18n : PW B X 117 18 [some .null, v1, v2, v3, v4, v5, v6, v7, v8, v9, v10, v11] (st) h Q ↔ PW B X 117 19 [some .null, v1, v2, v3, v4, v5, v6, v7, v8, v9, v10, v11] (.null :: st) h Q := PW_step rfl rfl rfl rfl
theorem u_117_19 : PW B X 117 19 lv (.ref a :: st) h Q ↔ pm_O (pm_gf (pm_at B h a) 10 29) (fun v => PW B X 117 22 lv (v :: st) h Q) := PW_getf rfl rfl
theorem u_117_22 : PW B X 117 22 lv (st) h Q ↔ PW B X 117 23 lv (.int 4 :: st) h Q := PW_step rfl rfl rfl rfl
theorem u_117_23 : PW B X 117 23 lv (.int x :: .ref a :: st) h Q ↔ pm_O (pm_ldi 0 (pm_at B h a) x) (fun v => PW B X 117 24 lv (v :: st) h Q) := PW_iald rfl rfl
theorem u_117_24 : PW B X 117 24 [some (.ref a), v1, v2, v3, v4, v5, v6, v7, v8, v9, v10, v11] (st) h Q ↔ PW B X 117 25 [some (.ref a), v1, v2, v3, v4, v5, v6, v7, v8, v9, v10, v11] (.ref a :: st) h Q := PW_step rfl rfl rfl rfl
theorem u_117_24n : PW B X 117 24 [some .null, v1, v2, v3, v4, v5, v6, v7, v8, v9, v10, v11] (st) h Q ↔ PW B X 117 25 [some .null, v1, v2, v3, v4, v5, v6, v7, v8, v9, v10, v11] (.null :: st) h Q := PW_step rfl rfl rfl rfl
theorem u_117_25 : PW B X 117 25 lv (.ref a :: st) h Q ↔ pm_O (pm_gf (pm_at B h a) 10 29) (fun v => PW B X 117 28 lv (v :: st) h Q) := PW_getf rfl rfl
theorem u_117_28 : PW B X 117 28 lv (st) h Q ↔ PW B X 117 29 lv (.int 5 :: st) h Q := PW_step rfl rfl rfl rfl
theorem u_117_29 : PW B X 117 29 lv (.int x :: .ref a :: st) h Q ↔ pm_O (pm_ldi 0 (pm_at B h a) x) (fun v => PW B X 117 30 lv (v :: st) h Q) := PW_iald rfl rfl
theorem u_117_30 : PW B X 117 30 lv (.int y :: .int x :: st) h Q ↔ PW B X 117 31 lv (.int (x * y) :: st) h Q := PW_step rfl rfl rfl rfl
theorem u_117_31 : PW B X 117 31 lv (.int x :: st) h Q ↔ (if x < 0 then PW B X 117 38 lv (st) h Q else PW B X 117 34 lv (st) h Q) := PW_if rfl rfl pm_c_lt
theorem u_117_34 : PW B X 117 34 lv (st) h Q ↔ PW B X 117 35 lv (.int 1 :: st) h Q := PW_step rfl rfl rfl rfl
theorem u_117_35 : PW B X 117 35 lv (st) h Q ↔ PW B X 117 39 lv (st) h Q := PW_step rfl rfl rfl rfl
theorem u_117_38 : PW B X 117 38 lv (st) h Q ↔ PW B X 117 39 lv (.int 0 :: st) h Q := PW_step rfl rfl rfl rfl
theorem u_117_39 : PW B X 117 39 [v0, v1, v2, v3, v4, v5, v6, v7, v8, v9, v10, v11] (.int x :: st) h Q ↔ PW B X 117 40 [v0, v1, pm_c v2, some (.int x), v4, v5, v6, v7, v8, v9, v10, v11] (st) h Q := PW_step rfl rfl rfl rfl
theorem u_117_40 : PW B X 117 40 [some (.ref a), v1, v2, v3, v4, v5, v6, v7, v8, v9, v10, v11] (st) h Q ↔ PW B X 117 41 [some (.ref a), v1, v2, v3, v4, v5, v6, v7, v8, v9, v10, v11] (.ref a :: st) h Q := PW_step rfl rfl rfl rfl
theorem u_117_40n : PW B X 117 40 [some .null, v1, v2, v3, v4, v5, v6, v7, v8, v9, v10, v11] (st) h Q ↔ PW B X 117 41 [some .null, v1, v2, v3, v4, v5, v6, v7, v8, v9, v10, v11] (.null :: st) h Q := PW_step rfl rfl rfl rfl
theorem u_117_41 : PW B X 117 41 lv (st) h Q ↔ PW B X 117 42 lv (.int 4 :: st) h Q := PW_step rfl rfl rfl rfl
theorem u_117_42 : PW B X 117 42 lv (st) h Q ↔ PW B X 117 43 lv (.int 5 :: st) h Q := PW_step rfl rfl rfl rfl
theorem u_117_43 : PW B X 117 43 lv (.int q1 :: .int q0 :: .ref a :: st) h Q ↔ (pm_w st ≤ 8 ∧ pm_io B h a 10 = true ∧ PW B X 120 0 [some (.ref a), some (.int q0), some (.int q1), none] [] h (fun r h' => PW B X 117 46 lv (r.toList ++ st) h' Q)) := PW_cv (y := 120) (as := [.int q0, .int q1]) (rest := st) rfl rfl rfl rfl rfl ⟨Nat.le_of_ble_eq_true rfl, Nat.le_of_ble_eq_true rfl, Nat.le_of_ble_eq_true rfl⟩
theorem u_117_46 : PW B X 117 46 lv (.int x :: st) h Q ↔ (if x < 0 then PW B X 117 53 lv (st) h Q else PW B X 117 49 lv (st) h Q) := PW_if rfl rfl pm_c_lt
theorem u_117_49 : PW B X 117 49 lv (st) h Q ↔ PW B X 117 50 lv (.int 4 :: st) h Q := PW_step rfl rfl rfl rfl
theorem u_117_50 : PW B X 117 50 lv (st) h Q ↔ PW B X 117 54 lv (st) h Q := PW_step rfl rfl rfl rfl
theorem u_117_53 : PW B X 117 53 lv (st) h Q ↔ PW B X 117 54 lv (.int 5 :: st) h Q := PW_step rfl rfl rfl rfl
theorem u_117_54 : PW B X 117 54 [v0, v1, v2, v3, v4, v5, v6, v7, v8, v9, v10, v11] (.int x :: st) h Q ↔ PW B X 117 56 [v0, v1, v2, pm_c v3, some (.int x), v5, v6, v7, v8, v9, v10, v11] (st) h Q := PW_step rfl rfl rfl rfl
theorem u_117_56 : PW B X 117 56 lv (st) h Q ↔ PW B X 117 58 lv (.int 9 :: st) h Q := PW_step rfl rfl rfl rfl
theorem u_117_58 : PW B X 117 58 [v0, v1, v2, v3, some (.int x), v5, v6, v7, v8, v9, v10, v11] (st) h Q ↔ PW B X 117 60 [v0, v1, v2, v3, some (.int x), v5, v6, v7, v8, v9, v10, v11] (.int x :: st) h Q := PW_step rfl rfl rfl rfl
theorem u_117_60 : PW B X 117 60 lv (.int y :: .int x :: st) h Q ↔ PW B X 117 61 lv (.int (x - y) :: st) h Q := PW_step rfl rfl rfl rfl
theorem u_117_61 : PW B X 117 61 [v0, v1, v2, v3, v4, v5, v6, v7, v8, v9, v10, v11] (.int x :: st) h Q ↔ PW B X 117 63 [v0, v1, v2, v3, pm_c v4, some (.int x), v6, v7, v8, v9, v10, v11] (st) h Q := PW_step rfl rfl rfl rfl
theorem u_117_63 : PW B X 117 63 [some (.ref a), v1, v2, v3, v4, v5, v6, v7, v8, v9, v10, v11] (st) h Q ↔ PW B X 117 64 [some (.ref a), v1, v2, v3, v4, v5, v6, v7, v8, v9, v10, v11] (.ref a :: st) h Q := PW_step rfl rfl rfl rfl
theorem u_117_63n : PW B X 117 63 [some .null, v1, v2, v3, v4, v5, v6, v7, v8, v9, v10, v11] (st) h Q ↔ PW B X 117 64 [some .null, v1, v2, v3, v4, v5, v6, v7, v8, v9, v10, v11] (.null :: st) h Q := PW_step rfl rfl rfl rfl
theorem u_117_64 : PW B X 117 64 lv (.ref a :: st) h Q ↔ pm_O (pm_gf (pm_at B h a) 10 28) (fun v => PW B X 117 67 lv (v :: st) h Q) := PW_getf rfl rfl
theorem u_117_67 : PW B X 117 67 [v0, v1, v2, v3, some (.int x), v5, v6, v7, v8, v9, v10, v11] (st) h Q ↔ PW B X 117 69 [v0, v1, v2, v3, some (.int x), v5, v6, v7, v8, v9, v10, v11] (.int x :: st) h Q := PW_step rfl rfl rfl rfl
theorem u_117_69 : PW B X 117 69 lv (.int x :: .ref a :: st) h Q ↔ pm_O (pm_ldi 0 (pm_at B h a) x) (fun v => PW B X 117 70 lv (v :: st) h Q) := PW_iald rfl rfl
theorem u_117_70 : PW B X 117 70 [v0, v1, v2, v3, v4, v5, v6, v7, v8, v9, v10, v11] (.int x :: st) h Q ↔ PW B X 117 72 [v0, v1, v2, v3, v4, pm_c v5, some (.int x), v7, v8, v9, v10, v11] (st) h Q := PW_step rfl rfl rfl rfl
theorem u_117_72 : PW B X 117 72 lv (st) h Q ↔ PW B X 117 73 lv (.long 0 :: st) h Q := PW_step rfl rfl rfl rfl
theorem u_117_73 : PW B X 117 73 [v0, v1, v2, v3, v4, v5, v6, v7, v8, v9, v10, v11] (.long z :: st) h Q ↔ PW B X 117 75 [v0, v1, v2, v3, v4, v5, pm_c v6, some (.long z), none, v9, v10, v11] (st) h Q := PW_step rfl rfl rfl rfl
theorem u_117_75 : PW B X 117 75 lv (st) h Q ↔ PW B X 117 76 lv (.int 0 :: st) h Q := PW_step rfl rfl rfl rfl
theorem u_117_76 : PW B X 117 76 [v0, v1, v2, v3, v4, v5, v6, v7, v8, v9, v10, v11] (.int x :: st) h Q ↔ PW B X 117 78 [v0, v1, v2, v3, v4, v5, v6, v7, pm_c v8, some (.int x), v10, v11] (st) h Q := PW_step rfl rfl rfl rfl
theorem u_117_78 : PW B X 117 78 [v0, v1, v2, v3, v4, v5, v6, v7, v8, some (.int x), v10, v11] (st) h Q ↔ PW B X 117 80 [v0, v1, v2, v3, v4, v5, v6, v7, v8, some (.int x), v10, v11] (.int x :: st) h Q := PW_step rfl rfl rfl rfl
theorem u_117_80 : PW B X 117 80 [v0, v1, v2, v3, v4, v5, some (.int x), v7, v8, v9, v10, v11] (st) h Q ↔ PW B X 117 82 [v0, v1, v2, v3, v4, v5, some (.int x), v7, v8, v9, v10, v11] (.int x :: st) h Q := PW_step rfl rfl rfl rfl
theorem u_117_82 : PW B X 117 82 lv (.int y :: .int x :: st) h Q ↔ (if y ≤ x then PW B X 117 200 lv (st) h Q else PW B X 117 85 lv (st) h Q) := PW_icmp rfl rfl pm_c_ge
theorem u_117_85 : PW B X 117 85 [some (.ref a), v1, v2, v3, v4, v5, v6, v7, v8, v9, v10, v11] (st) h Q ↔ PW B X 117 86 [some (.ref a), v1, v2, v3, v4, v5, v6, v7, v8, v9, v10, v11] (.ref a :: st) h Q := PW_step rfl rfl rfl rfl
theorem u_117_85n : PW B X 117 85 [some .null, v1, v2, v3, v4, v5, v6, v7, v8, v9, v10, v11] (st) h Q ↔ PW B X 117 86 [some .null, v1, v2, v3, v4, v5, v6, v7, v8, v9, v10, v11] (.null :: st) h Q := PW_step rfl rfl rfl rfl
theorem u_117_86 : PW B X 117 86 lv (.ref a :: st) h Q ↔ pm_O (pm_gf (pm_at B h a) 10 27) (fun v => PW B X 117 89 lv (v :: st) h Q) := PW_getf rfl rfl
theorem u_117_89 : PW B X 117 89 lv (st) h Q ↔ PW B X 117 91 lv (.int 40 :: st) h Q := PW_step rfl rfl rfl rfl
theorem u_117_91 : PW B X 117 91 [v0, v1, v2, v3, some (.int x), v5, v6, v7, v8, v9, v10, v11] (st) h Q ↔ PW B X 117 93 [v0, v1, v2, v3, some (.int x), v5, v6, v7, v8, v9, v10, v11] (.int x :: st) h Q := PW_step rfl rfl rfl rfl
theorem u_117_93 : PW B X 117 93 lv (.int y :: .int x :: st) h Q ↔ PW B X 117 94 lv (.int (x * y) :: st) h Q := PW_step rfl rfl rfl rfl
theorem u_117_94 : PW B X 117 94 [v0, v1, v2, v3, v4, v5, v6, v7, v8, some (.int x), v10, v11] (st) h Q ↔ PW B X 117 96 [v0, v1, v2, v3, v4, v5, v6, v7, v8, some (.int x), v10, v11] (.int x :: st) h Q := PW_step rfl rfl rfl rfl
theorem u_117_96 : PW B X 117 96 lv (.int y :: .int x :: st) h Q ↔ PW B X 117 97 lv (.int (x + y) :: st) h Q := PW_step rfl rfl rfl rfl
theorem u_117_97 : PW B X 117 97 lv (.int x :: .ref a :: st) h Q ↔ pm_O (pm_ldl (pm_at B h a) x) (fun v => PW B X 117 98 lv (v :: st) h Q) := PW_lald rfl
theorem u_117_98 : PW B X 117 98 [v0, v1, v2, some (.int x), v4, v5, v6, v7, v8, v9, v10, v11] (st) h Q ↔ PW B X 117 99 [v0, v1, v2, some (.int x), v4, v5, v6, v7, v8, v9, v10, v11] (.int x :: st) h Q := PW_step rfl rfl rfl rfl
theorem u_117_99 : PW B X 117 99 lv (.int x :: st) h Q ↔ (if x = 0 then PW B X 117 118 lv (st) h Q else PW B X 117 102 lv (st) h Q) := PW_if rfl rfl pm_c_eq
theorem u_117_102 : PW B X 117 102 [some (.ref a), v1, v2, v3, v4, v5, v6, v7, v8, v9, v10, v11] (st) h Q ↔ PW B X 117 103 [some (.ref a), v1, v2, v3, v4, v5, v6, v7, v8, v9, v10, v11] (.ref a :: st) h Q := PW_step rfl rfl rfl rfl
theorem u_117_102n : PW B X 117 102 [some .null, v1, v2, v3, v4, v5, v6, v7, v8, v9, v10, v11] (st) h Q ↔ PW B X 117 103 [some .null, v1, v2, v3, v4, v5, v6, v7, v8, v9, v10, v11] (.null :: st) h Q := PW_step rfl rfl rfl rfl
theorem u_117_103 : PW B X 117 103 lv (.ref a :: st) h Q ↔ pm_O (pm_gf (pm_at B h a) 10 27) (fun v => PW B X 117 106 lv (v :: st) h Q) := PW_getf rfl rfl
theorem u_117_106 : PW B X 117 106 lv (st) h Q ↔ PW B X 117 108 lv (.int 40 :: st) h Q := PW_step rfl rfl rfl rfl
theorem u_117_108 : PW B X 117 108 [v0, v1, v2, v3, v4, some (.int x), v6, v7, v8, v9, v10, v11] (st) h Q ↔ PW B X 117 110 [v0, v1, v2, v3, v4, some (.int x), v6, v7, v8, v9, v10, v11] (.int x :: st) h Q := PW_step rfl rfl rfl rfl
theorem u_117_110 : PW B X 117 110 lv (.int y :: .int x :: st) h Q ↔ PW B X 117 111 lv (.int (x * y) :: st) h Q := PW_step rfl rfl rfl rfl
theorem u_117_111 : PW B X 117 111 [v0, v1, v2, v3, v4, v5, v6, v7, v8, some (.int x), v10, v11] (st) h Q ↔ PW B X 117 113 [v0, v1, v2, v3, v4, v5, v6, v7, v8, some (.int x), v10, v11] (.int x :: st) h Q := PW_step rfl rfl rfl rfl
theorem u_117_113 : PW B X 117 113 lv (.int y :: .int x :: st) h Q ↔ PW B X 117 114 lv (.int (x + y) :: st) h Q := PW_step rfl rfl rfl rfl
theorem u_117_114 : PW B X 117 114 lv (.int x :: .ref a :: st) h Q ↔ pm_O (pm_ldl (pm_at B h a) x) (fun v => PW B X 117 115 lv (v :: st) h Q) := PW_lald rfl
theorem u_117_115 : PW B X 117 115 lv (st) h Q ↔ PW B X 117 132 lv (st) h Q := PW_step rfl rfl rfl rfl
theorem u_117_118 : PW B X 117 118 [some (.ref a), v1, v2, v3, v4, v5, v6, v7, v8, v9, v10, v11] (st) h Q ↔ PW B X 117 119 [some (.ref a), v1, v2, v3, v4, v5, v6, v7, v8, v9, v10, v11] (.ref a :: st) h Q := PW_step rfl rfl rfl rfl
theorem u_117_118n : PW B X 117 118 [some .null, v1, v2, v3, v4, v5, v6, v7, v8, v9, v10, v11] (st) h Q ↔ PW B X 117 119 [some .null, v1, v2, v3, v4, v5, v6, v7, v8, v9, v10, v11] (.null :: st) h Q := PW_step rfl rfl rfl rfl
theorem u_117_119 : PW B X 117 119 lv (.ref a :: st) h Q ↔ pm_O (pm_gf (pm_at B h a) 10 27) (fun v => PW B X 117 122 lv (v :: st) h Q) := PW_getf rfl rfl
theorem u_117_122 : PW B X 117 122 lv (st) h Q ↔ PW B X 117 124 lv (.int 40 :: st) h Q := PW_step rfl rfl rfl rfl
theorem u_117_124 : PW B X 117 124 [v0, v1, v2, v3, v4, some (.int x), v6, v7, v8, v9, v10, v11] (st) h Q ↔ PW B X 117 126 [v0, v1, v2, v3, v4, some (.int x), v6, v7, v8, v9, v10, v11] (.int x :: st) h Q := PW_step rfl rfl rfl rfl
theorem u_117_126 : PW B X 117 126 lv (.int y :: .int x :: st) h Q ↔ PW B X 117 127 lv (.int (x * y) :: st) h Q := PW_step rfl rfl rfl rfl
theorem u_117_127 : PW B X 117 127 [v0, v1, v2, v3, v4, v5, v6, v7, v8, some (.int x), v10, v11] (st) h Q ↔ PW B X 117 129 [v0, v1, v2, v3, v4, v5, v6, v7, v8, some (.int x), v10, v11] (.int x :: st) h Q := PW_step rfl rfl rfl rfl
theorem u_117_129 : PW B X 117 129 lv (.int y :: .int x :: st) h Q ↔ PW B X 117 130 lv (.int (x + y) :: st) h Q := PW_step rfl rfl rfl rfl
theorem u_117_130 : PW B X 117 130 lv (.int x :: .ref a :: st) h Q ↔ pm_O (pm_ldl (pm_at B h a) x) (fun v => PW B X 117 131 lv (v :: st) h Q) := PW_lald rfl
theorem u_117_131 : PW B X 117 131 lv (.long z :: st) h Q ↔ PW B X 117 132 lv (.long (-z) :: st) h Q := PW_step rfl rfl rfl rfl
theorem u_117_132 : PW B X 117 132 lv (.long w :: .long z :: st) h Q ↔ PW B X 117 133 lv (.long (z + w) :: st) h Q := PW_step rfl rfl rfl rfl
theorem u_117_133 : PW B X 117 133 [v0, v1, v2, v3, v4, v5, v6, some (.long z), v8, v9, v10, v11] (st) h Q ↔ PW B X 117 135 [v0, v1, v2, v3, v4, v5, v6, some (.long z), v8, v9, v10, v11] (.long z :: st) h Q := PW_step rfl rfl rfl rfl
theorem u_117_135 : PW B X 117 135 lv (.long w :: .long z :: st) h Q ↔ PW B X 117 136 lv (.long (z + w) :: st) h Q := PW_step rfl rfl rfl rfl
theorem u_117_136 : PW B X 117 136 [v0, v1, v2, v3, v4, v5, v6, v7, v8, v9, v10, v11] (.long z :: st) h Q ↔ PW B X 117 138 [v0, v1, v2, v3, v4, v5, v6, v7, v8, pm_c v9, some (.long z), none] (st) h Q := PW_step rfl rfl rfl rfl
theorem u_117_138 : PW B X 117 138 [v0, v1, v2, v3, v4, v5, v6, v7, v8, v9, some (.long z), v11] (st) h Q ↔ PW B X 117 140 [v0, v1, v2, v3, v4, v5, v6, v7, v8, v9, some (.long z), v11] (.long z :: st) h Q := PW_step rfl rfl rfl rfl
theorem u_117_140 : PW B X 117 140 lv (st) h Q ↔ PW B X 117 141 lv (.long 0 :: st) h Q := PW_step rfl rfl rfl rfl
theorem u_117_141 : PW B X 117 141 lv (.long w :: .long z :: st) h Q ↔ PW B X 117 142 lv (.int (lg_cmp z w) :: st) h Q := PW_step rfl rfl rfl rfl
theorem u_117_142 : PW B X 117 142 lv (.int x :: st) h Q ↔ (if 0 ≤ x then PW B X 117 151 lv (st) h Q else PW B X 117 145 lv (st) h Q) := PW_if rfl rfl pm_c_ge
theorem u_117_145 : PW B X 117 145 lv (st) h Q ↔ PW B X 117 148 lv (.long (-1) :: st) h Q := PW_step rfl rfl rfl rfl
theorem u_117_148 : PW B X 117 148 lv (st) h Q ↔ PW B X 117 157 lv (st) h Q := PW_step rfl rfl rfl rfl
theorem u_117_151 : PW B X 117 151 [v0, v1, v2, v3, v4, v5, v6, v7, v8, v9, some (.long z), v11] (st) h Q ↔ PW B X 117 153 [v0, v1, v2, v3, v4, v5, v6, v7, v8, v9, some (.long z), v11] (.long z :: st) h Q := PW_step rfl rfl rfl rfl
theorem u_117_153 : PW B X 117 153 lv (st) h Q ↔ PW B X 117 156 lv (.long 1000000000 :: st) h Q := PW_step rfl rfl rfl rfl
theorem u_117_156 : PW B X 117 156 lv (.long w :: .long z :: st) h Q ↔ (¬ w = 0 ∧ PW B X 117 157 lv (.long (z / w) :: st) h Q) := PW_ldiv rfl
theorem u_117_157 : PW B X 117 157 [v0, v1, v2, v3, v4, v5, v6, v7, v8, v9, v10, v11] (.long z :: st) h Q ↔ PW B X 117 159 [v0, v1, v2, v3, v4, v5, pm_c v6, some (.long z), none, v9, v10, v11] (st) h Q := PW_step rfl rfl rfl rfl
theorem u_117_159 : PW B X 117 159 [some (.ref a), v1, v2, v3, v4, v5, v6, v7, v8, v9, v10, v11] (st) h Q ↔ PW B X 117 160 [some (.ref a), v1, v2, v3, v4, v5, v6, v7, v8, v9, v10, v11] (.ref a :: st) h Q := PW_step rfl rfl rfl rfl
theorem u_117_159n : PW B X 117 159 [some .null, v1, v2, v3, v4, v5, v6, v7, v8, v9, v10, v11] (st) h Q ↔ PW B X 117 160 [some .null, v1, v2, v3, v4, v5, v6, v7, v8, v9, v10, v11] (.null :: st) h Q := PW_step rfl rfl rfl rfl
theorem u_117_160 : PW B X 117 160 lv (.ref a :: st) h Q ↔ pm_O (pm_gf (pm_at B h a) 10 27) (fun v => PW B X 117 163 lv (v :: st) h Q) := PW_getf rfl rfl
theorem u_117_163 : PW B X 117 163 lv (st) h Q ↔ PW B X 117 165 lv (.int 40 :: st) h Q := PW_step rfl rfl rfl rfl
theorem u_117_165 : PW B X 117 165 [v0, v1, v2, v3, some (.int x), v5, v6, v7, v8, v9, v10, v11] (st) h Q ↔ PW B X 117 167 [v0, v1, v2, v3, some (.int x), v5, v6, v7, v8, v9, v10, v11] (.int x :: st) h Q := PW_step rfl rfl rfl rfl
theorem u_117_167 : PW B X 117 167 lv (.int y :: .int x :: st) h Q ↔ PW B X 117 168 lv (.int (x * y) :: st) h Q := PW_step rfl rfl rfl rfl
theorem u_117_168 : PW B X 117 168 [v0, v1, v2, v3, v4, v5, v6, v7, v8, some (.int x), v10, v11] (st) h Q ↔ PW B X 117 170 [v0, v1, v2, v3, v4, v5, v6, v7, v8, some (.int x), v10, v11] (.int x :: st) h Q := PW_step rfl rfl rfl rfl
theorem u_117_170 : PW B X 117 170 lv (.int y :: .int x :: st) h Q ↔ PW B X 117 171 lv (.int (x + y) :: st) h Q := PW_step rfl rfl rfl rfl
theorem u_117_171 : PW B X 117 171 [v0, v1, v2, v3, v4, v5, v6, v7, v8, v9, some (.long z), v11] (st) h Q ↔ PW B X 117 173 [v0, v1, v2, v3, v4, v5, v6, v7, v8, v9, some (.long z), v11] (.long z :: st) h Q := PW_step rfl rfl rfl rfl
theorem u_117_173 : PW B X 117 173 lv (st) h Q ↔ PW B X 117 174 lv (.long 0 :: st) h Q := PW_step rfl rfl rfl rfl
theorem u_117_174 : PW B X 117 174 lv (.long w :: .long z :: st) h Q ↔ PW B X 117 175 lv (.int (lg_cmp z w) :: st) h Q := PW_step rfl rfl rfl rfl
theorem u_117_175 : PW B X 117 175 lv (.int x :: st) h Q ↔ (if 0 ≤ x then PW B X 117 187 lv (st) h Q else PW B X 117 178 lv (st) h Q) := PW_if rfl rfl pm_c_ge
theorem u_117_178 : PW B X 117 178 [v0, v1, v2, v3, v4, v5, v6, v7, v8, v9, some (.long z), v11] (st) h Q ↔ PW B X 117 180 [v0, v1, v2, v3, v4, v5, v6, v7, v8, v9, some (.long z), v11] (.long z :: st) h Q := PW_step rfl rfl rfl rfl
theorem u_117_180 : PW B X 117 180 lv (st) h Q ↔ PW B X 117 183 lv (.long 1000000000 :: st) h Q := PW_step rfl rfl rfl rfl
theorem u_117_183 : PW B X 117 183 lv (.long w :: .long z :: st) h Q ↔ PW B X 117 184 lv (.long (z + w) :: st) h Q := PW_step rfl rfl rfl rfl
theorem u_117_184 : PW B X 117 184 lv (st) h Q ↔ PW B X 117 193 lv (st) h Q := PW_step rfl rfl rfl rfl
theorem u_117_187 : PW B X 117 187 [v0, v1, v2, v3, v4, v5, v6, v7, v8, v9, some (.long z), v11] (st) h Q ↔ PW B X 117 189 [v0, v1, v2, v3, v4, v5, v6, v7, v8, v9, some (.long z), v11] (.long z :: st) h Q := PW_step rfl rfl rfl rfl
theorem u_117_189 : PW B X 117 189 lv (st) h Q ↔ PW B X 117 192 lv (.long 1000000000 :: st) h Q := PW_step rfl rfl rfl rfl
theorem u_117_192 : PW B X 117 192 lv (.long w :: .long z :: st) h Q ↔ (¬ w = 0 ∧ PW B X 117 193 lv (.long (z - z / w * w) :: st) h Q) := PW_lrem rfl
theorem u_117_193 : PW B X 117 193 lv (.long z :: .int x :: .ref a :: st) h Q ↔ pm_O (pm_stl (pm_at B h a) x z) (fun e => PW B X 117 194 lv (st) (pm_set B h a e) Q) := PW_last rfl
theorem u_117_194 : PW B X 117 194 [v0, v1, v2, v3, v4, v5, v6, v7, v8, some (.int x), v10, v11] (st) h Q ↔ PW B X 117 197 [v0, v1, v2, v3, v4, v5, v6, v7, pm_c v8, some (.int (x + 1)), v10, v11] (st) h Q := PW_step rfl rfl rfl rfl
theorem u_117_197 : PW B X 117 197 lv (st) h Q ↔ PW B X 117 78 lv (st) h Q := PW_step rfl rfl rfl rfl
theorem u_117_200 : PW B X 117 200 [v0, v1, v2, v3, v4, v5, v6, some (.long z), v8, v9, v10, v11] (st) h Q ↔ PW B X 117 202 [v0, v1, v2, v3, v4, v5, v6, some (.long z), v8, v9, v10, v11] (.long z :: st) h Q := PW_step rfl rfl rfl rfl
theorem u_117_202 : PW B X 117 202 lv (st) h Q ↔ PW B X 117 203 lv (.long 0 :: st) h Q := PW_step rfl rfl rfl rfl
theorem u_117_203 : PW B X 117 203 lv (.long w :: .long z :: st) h Q ↔ PW B X 117 204 lv (.int (lg_cmp z w) :: st) h Q := PW_step rfl rfl rfl rfl
theorem u_117_204 : PW B X 117 204 lv (.int x :: st) h Q ↔ (if x ≤ 0 then PW B X 117 233 lv (st) h Q else PW B X 117 207 lv (st) h Q) := PW_if rfl rfl pm_c_le
theorem u_117_207 : PW B X 117 207 [some (.ref a), v1, v2, v3, v4, v5, v6, v7, v8, v9, v10, v11] (st) h Q ↔ PW B X 117 208 [some (.ref a), v1, v2, v3, v4, v5, v6, v7, v8, v9, v10, v11] (.ref a :: st) h Q := PW_step rfl rfl rfl rfl
theorem u_117_207n : PW B X 117 207 [some .null, v1, v2, v3, v4, v5, v6, v7, v8, v9, v10, v11] (st) h Q ↔ PW B X 117 208 [some .null, v1, v2, v3, v4, v5, v6, v7, v8, v9, v10, v11] (.null :: st) h Q := PW_step rfl rfl rfl rfl
theorem u_117_208 : PW B X 117 208 lv (.ref a :: st) h Q ↔ pm_O (pm_gf (pm_at B h a) 10 27) (fun v => PW B X 117 211 lv (v :: st) h Q) := PW_getf rfl rfl
theorem u_117_211 : PW B X 117 211 lv (st) h Q ↔ PW B X 117 213 lv (.int 40 :: st) h Q := PW_step rfl rfl rfl rfl
theorem u_117_213 : PW B X 117 213 [v0, v1, v2, v3, some (.int x), v5, v6, v7, v8, v9, v10, v11] (st) h Q ↔ PW B X 117 215 [v0, v1, v2, v3, some (.int x), v5, v6, v7, v8, v9, v10, v11] (.int x :: st) h Q := PW_step rfl rfl rfl rfl
theorem u_117_215 : PW B X 117 215 lv (.int y :: .int x :: st) h Q ↔ PW B X 117 216 lv (.int (x * y) :: st) h Q := PW_step rfl rfl rfl rfl
theorem u_117_216 : PW B X 117 216 [v0, v1, v2, v3, v4, v5, some (.int x), v7, v8, v9, v10, v11] (st) h Q ↔ PW B X 117 218 [v0, v1, v2, v3, v4, v5, some (.int x), v7, v8, v9, v10, v11] (.int x :: st) h Q := PW_step rfl rfl rfl rfl
theorem u_117_218 : PW B X 117 218 lv (.int y :: .int x :: st) h Q ↔ PW B X 117 219 lv (.int (x + y) :: st) h Q := PW_step rfl rfl rfl rfl
theorem u_117_219 : PW B X 117 219 [v0, v1, v2, v3, v4, v5, v6, some (.long z), v8, v9, v10, v11] (st) h Q ↔ PW B X 117 221 [v0, v1, v2, v3, v4, v5, v6, some (.long z), v8, v9, v10, v11] (.long z :: st) h Q := PW_step rfl rfl rfl rfl
theorem u_117_221 : PW B X 117 221 lv (.long z :: .int x :: .ref a :: st) h Q ↔ pm_O (pm_stl (pm_at B h a) x z) (fun e => PW B X 117 222 lv (st) (pm_set B h a e) Q) := PW_last rfl
theorem u_117_222 : PW B X 117 222 [some (.ref a), v1, v2, v3, v4, v5, v6, v7, v8, v9, v10, v11] (st) h Q ↔ PW B X 117 223 [some (.ref a), v1, v2, v3, v4, v5, v6, v7, v8, v9, v10, v11] (.ref a :: st) h Q := PW_step rfl rfl rfl rfl
theorem u_117_222n : PW B X 117 222 [some .null, v1, v2, v3, v4, v5, v6, v7, v8, v9, v10, v11] (st) h Q ↔ PW B X 117 223 [some .null, v1, v2, v3, v4, v5, v6, v7, v8, v9, v10, v11] (.null :: st) h Q := PW_step rfl rfl rfl rfl
theorem u_117_223 : PW B X 117 223 lv (.ref a :: st) h Q ↔ pm_O (pm_gf (pm_at B h a) 10 28) (fun v => PW B X 117 226 lv (v :: st) h Q) := PW_getf rfl rfl
theorem u_117_226 : PW B X 117 226 [v0, v1, v2, v3, some (.int x), v5, v6, v7, v8, v9, v10, v11] (st) h Q ↔ PW B X 117 228 [v0, v1, v2, v3, some (.int x), v5, v6, v7, v8, v9, v10, v11] (.int x :: st) h Q := PW_step rfl rfl rfl rfl
theorem u_117_228 : PW B X 117 228 [v0, v1, v2, v3, v4, v5, some (.int x), v7, v8, v9, v10, v11] (st) h Q ↔ PW B X 117 230 [v0, v1, v2, v3, v4, v5, some (.int x), v7, v8, v9, v10, v11] (.int x :: st) h Q := PW_step rfl rfl rfl rfl
theorem u_117_230 : PW B X 117 230 lv (st) h Q ↔ PW B X 117 231 lv (.int 1 :: st) h Q := PW_step rfl rfl rfl rfl
theorem u_117_231 : PW B X 117 231 lv (.int y :: .int x :: st) h Q ↔ PW B X 117 232 lv (.int (x + y) :: st) h Q := PW_step rfl rfl rfl rfl
theorem u_117_232 : PW B X 117 232 lv (.int y :: .int x :: .ref a :: st) h Q ↔ pm_O (pm_sti 0 (pm_at B h a) x y) (fun e => PW B X 117 233 lv (st) (pm_set B h a e) Q) := PW_iast rfl
theorem u_117_233 : PW B X 117 233 [some (.ref a), v1, v2, v3, v4, v5, v6, v7, v8, v9, v10, v11] (st) h Q ↔ PW B X 117 234 [some (.ref a), v1, v2, v3, v4, v5, v6, v7, v8, v9, v10, v11] (.ref a :: st) h Q := PW_step rfl rfl rfl rfl
theorem u_117_233n : PW B X 117 233 [some .null, v1, v2, v3, v4, v5, v6, v7, v8, v9, v10, v11] (st) h Q ↔ PW B X 117 234 [some .null, v1, v2, v3, v4, v5, v6, v7, v8, v9, v10, v11] (.null :: st) h Q := PW_step rfl rfl rfl rfl
theorem u_117_234 : PW B X 117 234 [v0, v1, v2, v3, some (.int x), v5, v6, v7, v8, v9, v10, v11] (st) h Q ↔ PW B X 117 236 [v0, v1, v2, v3, some (.int x), v5, v6, v7, v8, v9, v10, v11] (.int x :: st) h Q := PW_step rfl rfl rfl rfl
theorem u_117_236 : PW B X 117 236 lv (.int q0 :: .ref a :: st) h Q ↔ (pm_w st ≤ 8 ∧ pm_io B h a 10 = true ∧ PW B X 116 0 [some (.ref a), some (.int q0)] [] h (fun r h' => PW B X 117 239 lv (r.toList ++ st) h' Q)) := PW_cv (y := 116) (as := [.int q0]) (rest := st) rfl rfl rfl rfl rfl ⟨Nat.le_of_ble_eq_true rfl, Nat.le_of_ble_eq_true rfl, Nat.le_of_ble_eq_true rfl⟩
theorem u_117_239 : PW B X 117 239 [some (.ref a), v1, v2, v3, v4, v5, v6, v7, v8, v9, v10, v11] (st) h Q ↔ PW B X 117 240 [some (.ref a), v1, v2, v3, v4, v5, v6, v7, v8, v9, v10, v11] (.ref a :: st) h Q := PW_step rfl rfl rfl rfl
theorem u_117_239n : PW B X 117 239 [some .null, v1, v2, v3, v4, v5, v6, v7, v8, v9, v10, v11] (st) h Q ↔ PW B X 117 240 [some .null, v1, v2, v3, v4, v5, v6, v7, v8, v9, v10, v11] (.null :: st) h Q := PW_step rfl rfl rfl rfl
theorem u_117_240 : PW B X 117 240 [v0, v1, v2, v3, some (.int x), v5, v6, v7, v8, v9, v10, v11] (st) h Q ↔ PW B X 117 242 [v0, v1, v2, v3, some (.int x), v5, v6, v7, v8, v9, v10, v11] (.int x :: st) h Q := PW_step rfl rfl rfl rfl
theorem u_117_242 : PW B X 117 242 lv (.int q0 :: .ref a :: st) h Q ↔ (pm_w st ≤ 8 ∧ pm_io B h a 10 = true ∧ PW B X 114 0 [some (.ref a), some (.int q0), none] [] h (fun r h' => PW B X 117 245 lv (r.toList ++ st) h' Q)) := PW_cv (y := 114) (as := [.int q0]) (rest := st) rfl rfl rfl rfl rfl ⟨Nat.le_of_ble_eq_true rfl, Nat.le_of_ble_eq_true rfl, Nat.le_of_ble_eq_true rfl⟩
theorem u_117_245 : PW B X 117 245 [some (.ref a), v1, v2, v3, v4, v5, v6, v7, v8, v9, v10, v11] (st) h Q ↔ PW B X 117 246 [some (.ref a), v1, v2, v3, v4, v5, v6, v7, v8, v9, v10, v11] (.ref a :: st) h Q := PW_step rfl rfl rfl rfl
theorem u_117_245n : PW B X 117 245 [some .null, v1, v2, v3, v4, v5, v6, v7, v8, v9, v10, v11] (st) h Q ↔ PW B X 117 246 [some .null, v1, v2, v3, v4, v5, v6, v7, v8, v9, v10, v11] (.null :: st) h Q := PW_step rfl rfl rfl rfl
theorem u_117_246 : PW B X 117 246 [v0, v1, v2, v3, some (.int x), v5, v6, v7, v8, v9, v10, v11] (st) h Q ↔ PW B X 117 248 [v0, v1, v2, v3, some (.int x), v5, v6, v7, v8, v9, v10, v11] (.int x :: st) h Q := PW_step rfl rfl rfl rfl
theorem u_117_248 : PW B X 117 248 [v0, some (.int x), v2, v3, v4, v5, v6, v7, v8, v9, v10, v11] (st) h Q ↔ PW B X 117 249 [v0, some (.int x), v2, v3, v4, v5, v6, v7, v8, v9, v10, v11] (.int x :: st) h Q := PW_step rfl rfl rfl rfl
theorem u_117_249 : PW B X 117 249 lv (.int q1 :: .int q0 :: .ref a :: st) h Q ↔ (pm_w st ≤ 8 ∧ pm_io B h a 10 = true ∧ PW B X 118 0 [some (.ref a), some (.int q0), some (.int q1), none] [] h (fun r h' => PW B X 117 252 lv (r.toList ++ st) h' Q)) := PW_cv (y := 118) (as := [.int q0, .int q1]) (rest := st) rfl rfl rfl rfl rfl ⟨Nat.le_of_ble_eq_true rfl, Nat.le_of_ble_eq_true rfl, Nat.le_of_ble_eq_true rfl⟩
theorem u_117_252 : PW B X 117 252 lv ([]) h Q ↔ Q none h := PW_ret rfl rfl
-- 118 Ref_copy
theorem u_118_0 : PW B X 118 0 lv (st) h Q ↔ PW B X 118 1 lv (.int 0 :: st) h Q := PW_step rfl rfl rfl rfl
theorem u_118_1 : PW B X 118 1 [v0, v1, v2, v3] (.int x :: st) h Q ↔ PW B X 118 2 [v0, v1, pm_c v2, some (.int x)] (st) h Q := PW_step rfl rfl rfl rfl
theorem u_118_2 : PW B X 118 2 [v0, v1, v2, some (.int x)] (st) h Q ↔ PW B X 118 3 [v0, v1, v2, some (.int x)] (.int x :: st) h Q := PW_step rfl rfl rfl rfl
theorem u_118_3 : PW B X 118 3 lv (st) h Q ↔ PW B X 118 5 lv (.int 40 :: st) h Q := PW_step rfl rfl rfl rfl
theorem u_118_5 : PW B X 118 5 lv (.int y :: .int x :: st) h Q ↔ (if y ≤ x then PW B X 118 36 lv (st) h Q else PW B X 118 8 lv (st) h Q) := PW_icmp rfl rfl pm_c_ge
theorem u_118_8 : PW B X 118 8 [some (.ref a), v1, v2, v3] (st) h Q ↔ PW B X 118 9 [some (.ref a), v1, v2, v3] (.ref a :: st) h Q := PW_step rfl rfl rfl rfl
theorem u_118_8n : PW B X 118 8 [some .null, v1, v2, v3] (st) h Q ↔ PW B X 118 9 [some .null, v1, v2, v3] (.null :: st) h Q := PW_step rfl rfl rfl rfl
theorem u_118_9 : PW B X 118 9 lv (.ref a :: st) h Q ↔ pm_O (pm_gf (pm_at B h a) 10 27) (fun v => PW B X 118 12 lv (v :: st) h Q) := PW_getf rfl rfl
theorem u_118_12 : PW B X 118 12 lv (st) h Q ↔ PW B X 118 14 lv (.int 40 :: st) h Q := PW_step rfl rfl rfl rfl
theorem u_118_14 : PW B X 118 14 [v0, v1, some (.int x), v3] (st) h Q ↔ PW B X 118 15 [v0, v1, some (.int x), v3] (.int x :: st) h Q := PW_step rfl rfl rfl rfl
theorem u_118_15 : PW B X 118 15 lv (.int y :: .int x :: st) h Q ↔ PW B X 118 16 lv (.int (x * y) :: st) h Q := PW_step rfl rfl rfl rfl
theorem u_118_16 : PW B X 118 16 [v0, v1, v2, some (.int x)] (st) h Q ↔ PW B X 118 17 [v0, v1, v2, some (.int x)] (.int x :: st) h Q := PW_step rfl rfl rfl rfl
theorem u_118_17 : PW B X 118 17 lv (.int y :: .int x :: st) h Q ↔ PW B X 118 18 lv (.int (x + y) :: st) h Q := PW_step rfl rfl rfl rfl
theorem u_118_18 : PW B X 118 18 [some (.ref a), v1, v2, v3] (st) h Q ↔ PW B X 118 19 [some (.ref a), v1, v2, v3] (.ref a :: st) h Q := PW_step rfl rfl rfl rfl
theorem u_118_18n : PW B X 118 18 [some .null, v1, v2, v3] (st) h Q ↔ PW B X 118 19 [some .null, v1, v2, v3] (.null :: st) h Q := PW_step rfl rfl rfl rfl
theorem u_118_19 : PW B X 118 19 lv (.ref a :: st) h Q ↔ pm_O (pm_gf (pm_at B h a) 10 27) (fun v => PW B X 118 22 lv (v :: st) h Q) := PW_getf rfl rfl
theorem u_118_22 : PW B X 118 22 lv (st) h Q ↔ PW B X 118 24 lv (.int 40 :: st) h Q := PW_step rfl rfl rfl rfl
theorem u_118_24 : PW B X 118 24 [v0, some (.int x), v2, v3] (st) h Q ↔ PW B X 118 25 [v0, some (.int x), v2, v3] (.int x :: st) h Q := PW_step rfl rfl rfl rfl
theorem u_118_25 : PW B X 118 25 lv (.int y :: .int x :: st) h Q ↔ PW B X 118 26 lv (.int (x * y) :: st) h Q := PW_step rfl rfl rfl rfl
theorem u_118_26 : PW B X 118 26 [v0, v1, v2, some (.int x)] (st) h Q ↔ PW B X 118 27 [v0, v1, v2, some (.int x)] (.int x :: st) h Q := PW_step rfl rfl rfl rfl
theorem u_118_27 : PW B X 118 27 lv (.int y :: .int x :: st) h Q ↔ PW B X 118 28 lv (.int (x + y) :: st) h Q := PW_step rfl rfl rfl rfl
theorem u_118_28 : PW B X 118 28 lv (.int x :: .ref a :: st) h Q ↔ pm_O (pm_ldl (pm_at B h a) x) (fun v => PW B X 118 29 lv (v :: st) h Q) := PW_lald rfl
theorem u_118_29 : PW B X 118 29 lv (.long z :: .int x :: .ref a :: st) h Q ↔ pm_O (pm_stl (pm_at B h a) x z) (fun e => PW B X 118 30 lv (st) (pm_set B h a e) Q) := PW_last rfl
theorem u_118_30 : PW B X 118 30 [v0, v1, v2, some (.int x)] (st) h Q ↔ PW B X 118 33 [v0, v1, pm_c v2, some (.int (x + 1))] (st) h Q := PW_step rfl rfl rfl rfl
theorem u_118_33 : PW B X 118 33 lv (st) h Q ↔ PW B X 118 2 lv (st) h Q := PW_step rfl rfl rfl rfl
theorem u_118_36 : PW B X 118 36 lv (st) h Q ↔ PW B X 118 37 lv (.int 0 :: st) h Q := PW_step rfl rfl rfl rfl
theorem u_118_37 : PW B X 118 37 [v0, v1, v2, v3] (.int x :: st) h Q ↔ PW B X 118 38 [v0, v1, pm_c v2, some (.int x)] (st) h Q := PW_step rfl rfl rfl rfl
theorem u_118_38 : PW B X 118 38 [v0, v1, v2, some (.int x)] (st) h Q ↔ PW B X 118 39 [v0, v1, v2, some (.int x)] (.int x :: st) h Q := PW_step rfl rfl rfl rfl
theorem u_118_39 : PW B X 118 39 lv (st) h Q ↔ PW B X 118 42 lv (.int 168 :: st) h Q := PW_step rfl rfl rfl rfl
theorem u_118_42 : PW B X 118 42 lv (.int y :: .int x :: st) h Q ↔ (if y ≤ x then PW B X 118 75 lv (st) h Q else PW B X 118 45 lv (st) h Q) := PW_icmp rfl rfl pm_c_ge
theorem u_118_45 : PW B X 118 45 [some (.ref a), v1, v2, v3] (st) h Q ↔ PW B X 118 46 [some (.ref a), v1, v2, v3] (.ref a :: st) h Q := PW_step rfl rfl rfl rfl
theorem u_118_45n : PW B X 118 45 [some .null, v1, v2, v3] (st) h Q ↔ PW B X 118 46 [some .null, v1, v2, v3] (.null :: st) h Q := PW_step rfl rfl rfl rfl
theorem u_118_46 : PW B X 118 46 lv (.ref a :: st) h Q ↔ pm_O (pm_gf (pm_at B h a) 10 30) (fun v => PW B X 118 49 lv (v :: st) h Q) := PW_getf rfl rfl
theorem u_118_49 : PW B X 118 49 lv (st) h Q ↔ PW B X 118 52 lv (.int 168 :: st) h Q := PW_step rfl rfl rfl rfl
theorem u_118_52 : PW B X 118 52 [v0, v1, some (.int x), v3] (st) h Q ↔ PW B X 118 53 [v0, v1, some (.int x), v3] (.int x :: st) h Q := PW_step rfl rfl rfl rfl
theorem u_118_53 : PW B X 118 53 lv (.int y :: .int x :: st) h Q ↔ PW B X 118 54 lv (.int (x * y) :: st) h Q := PW_step rfl rfl rfl rfl
theorem u_118_54 : PW B X 118 54 [v0, v1, v2, some (.int x)] (st) h Q ↔ PW B X 118 55 [v0, v1, v2, some (.int x)] (.int x :: st) h Q := PW_step rfl rfl rfl rfl
theorem u_118_55 : PW B X 118 55 lv (.int y :: .int x :: st) h Q ↔ PW B X 118 56 lv (.int (x + y) :: st) h Q := PW_step rfl rfl rfl rfl
theorem u_118_56 : PW B X 118 56 [some (.ref a), v1, v2, v3] (st) h Q ↔ PW B X 118 57 [some (.ref a), v1, v2, v3] (.ref a :: st) h Q := PW_step rfl rfl rfl rfl
theorem u_118_56n : PW B X 118 56 [some .null, v1, v2, v3] (st) h Q ↔ PW B X 118 57 [some .null, v1, v2, v3] (.null :: st) h Q := PW_step rfl rfl rfl rfl
theorem u_118_57 : PW B X 118 57 lv (.ref a :: st) h Q ↔ pm_O (pm_gf (pm_at B h a) 10 30) (fun v => PW B X 118 60 lv (v :: st) h Q) := PW_getf rfl rfl
theorem u_118_60 : PW B X 118 60 lv (st) h Q ↔ PW B X 118 63 lv (.int 168 :: st) h Q := PW_step rfl rfl rfl rfl
theorem u_118_63 : PW B X 118 63 [v0, some (.int x), v2, v3] (st) h Q ↔ PW B X 118 64 [v0, some (.int x), v2, v3] (.int x :: st) h Q := PW_step rfl rfl rfl rfl
theorem u_118_64 : PW B X 118 64 lv (.int y :: .int x :: st) h Q ↔ PW B X 118 65 lv (.int (x * y) :: st) h Q := PW_step rfl rfl rfl rfl
theorem u_118_65 : PW B X 118 65 [v0, v1, v2, some (.int x)] (st) h Q ↔ PW B X 118 66 [v0, v1, v2, some (.int x)] (.int x :: st) h Q := PW_step rfl rfl rfl rfl
theorem u_118_66 : PW B X 118 66 lv (.int y :: .int x :: st) h Q ↔ PW B X 118 67 lv (.int (x + y) :: st) h Q := PW_step rfl rfl rfl rfl
theorem u_118_67 : PW B X 118 67 lv (.int x :: .ref a :: st) h Q ↔ pm_O (pm_ldi 0 (pm_at B h a) x) (fun v => PW B X 118 68 lv (v :: st) h Q) := PW_iald rfl rfl
theorem u_118_68 : PW B X 118 68 lv (.int y :: .int x :: .ref a :: st) h Q ↔ pm_O (pm_sti 0 (pm_at B h a) x y) (fun e => PW B X 118 69 lv (st) (pm_set B h a e) Q) := PW_iast rfl
theorem u_118_69 : PW B X 118 69 [v0, v1, v2, some (.int x)] (st) h Q ↔ PW B X 118 72 [v0, v1, pm_c v2, some (.int (x + 1))] (st) h Q := PW_step rfl rfl rfl rfl
theorem u_118_72 : PW B X 118 72 lv (st) h Q ↔ PW B X 118 38 lv (st) h Q := PW_step rfl rfl rfl rfl
theorem u_118_75 : PW B X 118 75 [some (.ref a), v1, v2, v3] (st) h Q ↔ PW B X 118 76 [some (.ref a), v1, v2, v3] (.ref a :: st) h Q := PW_step rfl rfl rfl rfl
theorem u_118_75n : PW B X 118 75 [some .null, v1, v2, v3] (st) h Q ↔ PW B X 118 76 [some .null, v1, v2, v3] (.null :: st) h Q := PW_step rfl rfl rfl rfl
theorem u_118_76 : PW B X 118 76 lv (.ref a :: st) h Q ↔ pm_O (pm_gf (pm_at B h a) 10 28) (fun v => PW B X 118 79 lv (v :: st) h Q) := PW_getf rfl rfl
theorem u_118_79 : PW B X 118 79 [v0, v1, some (.int x), v3] (st) h Q ↔ PW B X 118 80 [v0, v1, some (.int x), v3] (.int x :: st) h Q := PW_step rfl rfl rfl rfl
theorem u_118_80 : PW B X 118 80 [some (.ref a), v1, v2, v3] (st) h Q ↔ PW B X 118 81 [some (.ref a), v1, v2, v3] (.ref a :: st) h Q := PW_step rfl rfl rfl rfl
theorem u_118_80n : PW B X 118 80 [some .null, v1, v2, v3] (st) h Q ↔ PW B X 118 81 [some .null, v1, v2, v3] (.null :: st) h Q := PW_step rfl rfl rfl rfl
theorem u_118_81 : PW B X 118 81 lv (.ref a :: st) h Q ↔ pm_O (pm_gf (pm_at B h a) 10 28) (fun v => PW B X 118 84 lv (v :: st) h Q) := PW_getf rfl rfl
theorem u_118_84 : PW B X 118 84 [v0, some (.int x), v2, v3] (st) h Q ↔ PW B X 118 85 [v0, some (.int x), v2, v3] (.int x :: st) h Q := PW_step rfl rfl rfl rfl
theorem u_118_85 : PW B X 118 85 lv (.int x :: .ref a :: st) h Q ↔ pm_O (pm_ldi 0 (pm_at B h a) x) (fun v => PW B X 118 86 lv (v :: st) h Q) := PW_iald rfl rfl
theorem u_118_86 : PW B X 118 86 lv (.int y :: .int x :: .ref a :: st) h Q ↔ pm_O (pm_sti 0 (pm_at B h a) x y) (fun e => PW B X 118 87 lv (st) (pm_set B h a e) Q) := PW_iast rfl
theorem u_118_87 : PW B X 118 87 [some (.ref a), v1, v2, v3] (st) h Q ↔ PW B X 118 88 [some (.ref a), v1, v2, v3] (.ref a :: st) h Q := PW_step rfl rfl rfl rfl
theorem u_118_87n : PW B X 118 87 [some .null, v1, v2, v3] (st) h Q ↔ PW B X 118 88 [some .null, v1, v2, v3] (.null :: st) h Q := PW_step rfl rfl rfl rfl
theorem u_118_88 : PW B X 118 88 lv (.ref a :: st) h Q ↔ pm_O (pm_gf (pm_at B h a) 10 29) (fun v => PW B X 118 91 lv (v :: st) h Q) := PW_getf rfl rfl
theorem u_118_91 : PW B X 118 91 [v0, v1, some (.int x), v3] (st) h Q ↔ PW B X 118 92 [v0, v1, some (.int x), v3] (.int x :: st) h Q := PW_step rfl rfl rfl rfl
theorem u_118_92 : PW B X 118 92 [some (.ref a), v1, v2, v3] (st) h Q ↔ PW B X 118 93 [some (.ref a), v1, v2, v3] (.ref a :: st) h Q := PW_step rfl rfl rfl rfl
theorem u_118_92n : PW B X 118 92 [some .null, v1, v2, v3] (st) h Q ↔ PW B X 118 93 [some .null, v1, v2, v3] (.null :: st) h Q := PW_step rfl rfl rfl rfl
theorem u_118_93 : PW B X 118 93 lv (.ref a :: st) h Q ↔ pm_O (pm_gf (pm_at B h a) 10 29) (fun v => PW B X 118 96 lv (v :: st) h Q) := PW_getf rfl rfl
theorem u_118_96 : PW B X 118 96 [v0, some (.int x), v2, v3] (st) h Q ↔ PW B X 118 97 [v0, some (.int x), v2, v3] (.int x :: st) h Q := PW_step rfl rfl rfl rfl
theorem u_118_97 : PW B X 118 97 lv (.int x :: .ref a :: st) h Q ↔ pm_O (pm_ldi 0 (pm_at B h a) x) (fun v => PW B X 118 98 lv (v :: st) h Q) := PW_iald rfl rfl
theorem u_118_98 : PW B X 118 98 lv (.int y :: .int x :: .ref a :: st) h Q ↔ pm_O (pm_sti 0 (pm_at B h a) x y) (fun e => PW B X 118 99 lv (st) (pm_set B h a e) Q) := PW_iast rfl
theorem u_118_99 : PW B X 118 99 lv ([]) h Q ↔ Q none h := PW_ret rfl rfl
end

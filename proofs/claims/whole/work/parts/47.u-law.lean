/-! RULES OF 47.u-law, an instruction each, written by ugen.py: do not edit. -/
section
variable {B : Nat} {X : pm_X} {lv : pm_L} {st : List Value} {h : pm_H} {Q : Option Value → pm_H → Prop} {v : Value} {x y : Int32} {z w : Int64} {a b : Nat}
variable {v0 v1 v2 v3 v4 v5 v6 v7 v8 v9 v10 v11 v12 v13 v14 v15 : Option Value} {q0 q1 q2 q3 q4 q5 : Int32} {p0 p1 p2 p3 p4 p5 : Int64} {r0 r1 r2 r3 r4 r5 : Nat}
-- 146 L_law
theorem u_146_0 : PW B X 146 0 lv (st) h Q ↔ PW B X 146 3 lv (.ref (B + h.length) :: st) (h ++ [.inr (0, [.null, .int 0, .null, .null, .null, .null, .null, .null, .null, .null, .int 0, .int 0, .long 0, .null, .null, .int 0, .int 0, .int 0, .int 0])]) Q := PW_step rfl rfl rfl rfl
theorem u_146_3 : PW B X 146 3 lv (.ref a :: st) h Q ↔ PW B X 146 4 lv (.ref a :: .ref a :: st) h Q := PW_step rfl rfl rfl rfl
theorem u_146_3i : PW B X 146 3 lv (.int x :: st) h Q ↔ PW B X 146 4 lv (.int x :: .int x :: st) h Q := PW_step rfl rfl rfl rfl
theorem u_146_4 : PW B X 146 4 lv (.ref a :: st) h Q ↔ (pm_w st ≤ 8 ∧ PW B X 0 0 [some (.ref a)] [] h (fun r h' => PW B X 146 7 lv (r.toList ++ st) h' Q)) := PW_ci (y := 0) (as := []) (rest := st) rfl rfl rfl rfl rfl ⟨Nat.le_of_ble_eq_true rfl, Nat.le_of_ble_eq_true rfl, Nat.le_of_ble_eq_true rfl⟩
theorem u_146_7 : PW B X 146 7 [v0, v1, v2, v3] (.ref a :: st) h Q ↔ PW B X 146 8 [pm_c v0, some (.ref a), v2, v3] (st) h Q := PW_step rfl rfl rfl rfl
theorem u_146_7n : PW B X 146 7 [v0, v1, v2, v3] (.null :: st) h Q ↔ PW B X 146 8 [pm_c v0, some .null, v2, v3] (st) h Q := PW_step rfl rfl rfl rfl
theorem u_146_8 : PW B X 146 8 lv (st) h Q ↔ PW B X 146 11 lv (.ref (B + h.length) :: st) (h ++ [.inr (10, [.int 0, .null, .null, .null, .null, .null, .null, .int 0, .int 0, .int 0, .int 0, .null, .null, .int 0, .null, .null, .null, .null, .null, .int 0, .null, .int 0, .null, .null, .int 0, .int 0, .null, .null, .null, .null, .null, .int 0, .int 0, .null, .null])]) Q := PW_step rfl rfl rfl rfl
theorem u_146_11 : PW B X 146 11 lv (.ref a :: st) h Q ↔ PW B X 146 12 lv (.ref a :: .ref a :: st) h Q := PW_step rfl rfl rfl rfl
theorem u_146_11i : PW B X 146 11 lv (.int x :: st) h Q ↔ PW B X 146 12 lv (.int x :: .int x :: st) h Q := PW_step rfl rfl rfl rfl
theorem u_146_12 : PW B X 146 12 lv (.ref a :: st) h Q ↔ (pm_w st ≤ 8 ∧ PW B X 92 0 [some (.ref a), none, none, none, none] [] h (fun r h' => PW B X 146 15 lv (r.toList ++ st) h' Q)) := PW_ci (y := 92) (as := []) (rest := st) rfl rfl rfl rfl rfl ⟨Nat.le_of_ble_eq_true rfl, Nat.le_of_ble_eq_true rfl, Nat.le_of_ble_eq_true rfl⟩
theorem u_146_15 : PW B X 146 15 [v0, v1, v2, v3] (.ref a :: st) h Q ↔ PW B X 146 16 [v0, pm_c v1, some (.ref a), v3] (st) h Q := PW_step rfl rfl rfl rfl
theorem u_146_15n : PW B X 146 15 [v0, v1, v2, v3] (.null :: st) h Q ↔ PW B X 146 16 [v0, pm_c v1, some .null, v3] (st) h Q := PW_step rfl rfl rfl rfl
theorem u_146_16 : PW B X 146 16 lv (st) h Q ↔ PW B X 146 17 lv (.int 0 :: st) h Q := PW_step rfl rfl rfl rfl
theorem u_146_17 : PW B X 146 17 [v0, v1, v2, v3] (.int x :: st) h Q ↔ PW B X 146 18 [v0, v1, pm_c v2, some (.int x)] (st) h Q := PW_step rfl rfl rfl rfl
theorem u_146_18 : PW B X 146 18 [v0, v1, v2, some (.int x)] (st) h Q ↔ PW B X 146 19 [v0, v1, v2, some (.int x)] (.int x :: st) h Q := PW_step rfl rfl rfl rfl
theorem u_146_19 : PW B X 146 19 [some (.ref a), v1, v2, v3] (st) h Q ↔ PW B X 146 20 [some (.ref a), v1, v2, v3] (.ref a :: st) h Q := PW_step rfl rfl rfl rfl
theorem u_146_19n : PW B X 146 19 [some .null, v1, v2, v3] (st) h Q ↔ PW B X 146 20 [some .null, v1, v2, v3] (.null :: st) h Q := PW_step rfl rfl rfl rfl
theorem u_146_20 : PW B X 146 20 lv (.ref X.1 :: st) h Q ↔ PW B X 146 21 lv (.int (Int32.ofNat X.2.1) :: st) h Q := PW_slen rfl rfl
theorem u_146_21 : PW B X 146 21 lv (st) h Q ↔ PW B X 146 23 lv (.int 6 :: st) h Q := PW_step rfl rfl rfl rfl
theorem u_146_23 : PW B X 146 23 lv (.int y :: .int x :: st) h Q ↔ PW B X 146 24 lv (.int (x - y) :: st) h Q := PW_step rfl rfl rfl rfl
theorem u_146_24 : PW B X 146 24 lv (.int y :: .int x :: st) h Q ↔ (if y < x then PW B X 146 829 lv (st) h Q else PW B X 146 27 lv (st) h Q) := PW_icmp rfl rfl pm_c_gt
theorem u_146_27 : PW B X 146 27 [some (.ref a), v1, v2, v3] (st) h Q ↔ PW B X 146 28 [some (.ref a), v1, v2, v3] (.ref a :: st) h Q := PW_step rfl rfl rfl rfl
theorem u_146_27n : PW B X 146 27 [some .null, v1, v2, v3] (st) h Q ↔ PW B X 146 28 [some .null, v1, v2, v3] (.null :: st) h Q := PW_step rfl rfl rfl rfl
theorem u_146_28 : PW B X 146 28 [v0, v1, v2, some (.int x)] (st) h Q ↔ PW B X 146 29 [v0, v1, v2, some (.int x)] (.int x :: st) h Q := PW_step rfl rfl rfl rfl
theorem u_146_29 (hx : pm_ix x X.2.1 = true) : PW B X 146 29 lv (.int x :: .ref X.1 :: st) h Q ↔ PW B X 146 30 lv (.int (X.2.2 x.toNatClampNeg) :: st) h Q := PW_sld rfl rfl hx
theorem u_146_30 : PW B X 146 30 lv (st) h Q ↔ PW B X 146 32 lv (.int 31 :: st) h Q := PW_step rfl rfl rfl rfl
theorem u_146_32 : PW B X 146 32 lv (.int y :: .int x :: st) h Q ↔ PW B X 146 33 lv (.int (x &&& y) :: st) h Q := PW_step rfl rfl rfl rfl
theorem u_146_33_0 : PW B X 146 33 lv (.int 0 :: st) h Q ↔ PW B X 146 128 lv (st) h Q := PW_step rfl rfl rfl rfl
theorem u_146_33_1 : PW B X 146 33 lv (.int 1 :: st) h Q ↔ PW B X 146 161 lv (st) h Q := PW_step rfl rfl rfl rfl
theorem u_146_33_2 : PW B X 146 33 lv (.int 2 :: st) h Q ↔ PW B X 146 220 lv (st) h Q := PW_step rfl rfl rfl rfl
theorem u_146_33_3 : PW B X 146 33 lv (.int 3 :: st) h Q ↔ PW B X 146 283 lv (st) h Q := PW_step rfl rfl rfl rfl
theorem u_146_33_4 : PW B X 146 33 lv (.int 4 :: st) h Q ↔ PW B X 146 306 lv (st) h Q := PW_step rfl rfl rfl rfl
theorem u_146_33_5 : PW B X 146 33 lv (.int 5 :: st) h Q ↔ PW B X 146 319 lv (st) h Q := PW_step rfl rfl rfl rfl
theorem u_146_33_6 : PW B X 146 33 lv (.int 6 :: st) h Q ↔ PW B X 146 373 lv (st) h Q := PW_step rfl rfl rfl rfl
theorem u_146_33_7 : PW B X 146 33 lv (.int 7 :: st) h Q ↔ PW B X 146 416 lv (st) h Q := PW_step rfl rfl rfl rfl
theorem u_146_33_8 : PW B X 146 33 lv (.int 8 :: st) h Q ↔ PW B X 146 429 lv (st) h Q := PW_step rfl rfl rfl rfl
theorem u_146_33_9 : PW B X 146 33 lv (.int 9 :: st) h Q ↔ PW B X 146 468 lv (st) h Q := PW_step rfl rfl rfl rfl
theorem u_146_33_10 : PW B X 146 33 lv (.int 10 :: st) h Q ↔ PW B X 146 501 lv (st) h Q := PW_step rfl rfl rfl rfl
theorem u_146_33_11 : PW B X 146 33 lv (.int 11 :: st) h Q ↔ PW B X 146 554 lv (st) h Q := PW_step rfl rfl rfl rfl
theorem u_146_33_12 : PW B X 146 33 lv (.int 12 :: st) h Q ↔ PW B X 146 598 lv (st) h Q := PW_step rfl rfl rfl rfl
theorem u_146_33_13 : PW B X 146 33 lv (.int 13 :: st) h Q ↔ PW B X 146 621 lv (st) h Q := PW_step rfl rfl rfl rfl
theorem u_146_33_14 : PW B X 146 33 lv (.int 14 :: st) h Q ↔ PW B X 146 655 lv (st) h Q := PW_step rfl rfl rfl rfl
theorem u_146_33_15 : PW B X 146 33 lv (.int 15 :: st) h Q ↔ PW B X 146 688 lv (st) h Q := PW_step rfl rfl rfl rfl
theorem u_146_33_16 : PW B X 146 33 lv (.int 16 :: st) h Q ↔ PW B X 146 711 lv (st) h Q := PW_step rfl rfl rfl rfl
theorem u_146_33_17 : PW B X 146 33 lv (.int 17 :: st) h Q ↔ PW B X 146 744 lv (st) h Q := PW_step rfl rfl rfl rfl
theorem u_146_33_18 : PW B X 146 33 lv (.int 18 :: st) h Q ↔ PW B X 146 777 lv (st) h Q := PW_step rfl rfl rfl rfl
theorem u_146_33_19 : PW B X 146 33 lv (.int 19 :: st) h Q ↔ PW B X 146 800 lv (st) h Q := PW_step rfl rfl rfl rfl
theorem u_146_33_d (hx : x.toInt < 0 ∨ 19 < x.toInt) : PW B X 146 33 lv (.int x :: st) h Q ↔ PW B X 146 823 lv (st) h Q := PW_tout rfl rfl hx
theorem u_146_128 : PW B X 146 128 [v0, some (.ref a), v2, v3] (st) h Q ↔ PW B X 146 129 [v0, some (.ref a), v2, v3] (.ref a :: st) h Q := PW_step rfl rfl rfl rfl
theorem u_146_128n : PW B X 146 128 [v0, some .null, v2, v3] (st) h Q ↔ PW B X 146 129 [v0, some .null, v2, v3] (.null :: st) h Q := PW_step rfl rfl rfl rfl
theorem u_146_129 : PW B X 146 129 [some (.ref a), v1, v2, v3] (st) h Q ↔ PW B X 146 130 [some (.ref a), v1, v2, v3] (.ref a :: st) h Q := PW_step rfl rfl rfl rfl
theorem u_146_129n : PW B X 146 129 [some .null, v1, v2, v3] (st) h Q ↔ PW B X 146 130 [some .null, v1, v2, v3] (.null :: st) h Q := PW_step rfl rfl rfl rfl
theorem u_146_130 : PW B X 146 130 [v0, v1, v2, some (.int x)] (st) h Q ↔ PW B X 146 131 [v0, v1, v2, some (.int x)] (.int x :: st) h Q := PW_step rfl rfl rfl rfl
theorem u_146_131 : PW B X 146 131 lv (st) h Q ↔ PW B X 146 132 lv (.int 1 :: st) h Q := PW_step rfl rfl rfl rfl
theorem u_146_132 : PW B X 146 132 lv (.int y :: .int x :: st) h Q ↔ PW B X 146 133 lv (.int (x + y) :: st) h Q := PW_step rfl rfl rfl rfl
theorem u_146_133 (hx : pm_ix x X.2.1 = true) : PW B X 146 133 lv (.int x :: .ref X.1 :: st) h Q ↔ PW B X 146 134 lv (.int (X.2.2 x.toNatClampNeg) :: st) h Q := PW_sld rfl rfl hx
theorem u_146_134 : PW B X 146 134 [some (.ref a), v1, v2, v3] (st) h Q ↔ PW B X 146 135 [some (.ref a), v1, v2, v3] (.ref a :: st) h Q := PW_step rfl rfl rfl rfl
theorem u_146_134n : PW B X 146 134 [some .null, v1, v2, v3] (st) h Q ↔ PW B X 146 135 [some .null, v1, v2, v3] (.null :: st) h Q := PW_step rfl rfl rfl rfl
theorem u_146_135 : PW B X 146 135 [v0, v1, v2, some (.int x)] (st) h Q ↔ PW B X 146 136 [v0, v1, v2, some (.int x)] (.int x :: st) h Q := PW_step rfl rfl rfl rfl
theorem u_146_136 : PW B X 146 136 lv (st) h Q ↔ PW B X 146 137 lv (.int 2 :: st) h Q := PW_step rfl rfl rfl rfl
theorem u_146_137 : PW B X 146 137 lv (.int y :: .int x :: st) h Q ↔ PW B X 146 138 lv (.int (x + y) :: st) h Q := PW_step rfl rfl rfl rfl
theorem u_146_138 (hx : pm_ix x X.2.1 = true) : PW B X 146 138 lv (.int x :: .ref X.1 :: st) h Q ↔ PW B X 146 139 lv (.int (X.2.2 x.toNatClampNeg) :: st) h Q := PW_sld rfl rfl hx
theorem u_146_139 : PW B X 146 139 lv (.int q1 :: .int q0 :: .ref a :: st) h Q ↔ (pm_w st ≤ 8 ∧ pm_io B h a 0 = true ∧ PW B X 11 0 [some (.ref a), some (.int q0), some (.int q1)] [] h (fun r h' => PW B X 146 142 lv (r.toList ++ st) h' Q)) := PW_cv (y := 11) (as := [.int q0, .int q1]) (rest := st) rfl rfl rfl rfl rfl ⟨Nat.le_of_ble_eq_true rfl, Nat.le_of_ble_eq_true rfl, Nat.le_of_ble_eq_true rfl⟩
theorem u_146_142 : PW B X 146 142 [v0, v1, some (.ref a), v3] (st) h Q ↔ PW B X 146 143 [v0, v1, some (.ref a), v3] (.ref a :: st) h Q := PW_step rfl rfl rfl rfl
theorem u_146_142n : PW B X 146 142 [v0, v1, some .null, v3] (st) h Q ↔ PW B X 146 143 [v0, v1, some .null, v3] (.null :: st) h Q := PW_step rfl rfl rfl rfl
theorem u_146_143 : PW B X 146 143 [some (.ref a), v1, v2, v3] (st) h Q ↔ PW B X 146 144 [some (.ref a), v1, v2, v3] (.ref a :: st) h Q := PW_step rfl rfl rfl rfl
theorem u_146_143n : PW B X 146 143 [some .null, v1, v2, v3] (st) h Q ↔ PW B X 146 144 [some .null, v1, v2, v3] (.null :: st) h Q := PW_step rfl rfl rfl rfl
theorem u_146_144 : PW B X 146 144 [v0, v1, v2, some (.int x)] (st) h Q ↔ PW B X 146 145 [v0, v1, v2, some (.int x)] (.int x :: st) h Q := PW_step rfl rfl rfl rfl
theorem u_146_145 : PW B X 146 145 lv (st) h Q ↔ PW B X 146 146 lv (.int 1 :: st) h Q := PW_step rfl rfl rfl rfl
theorem u_146_146 : PW B X 146 146 lv (.int y :: .int x :: st) h Q ↔ PW B X 146 147 lv (.int (x + y) :: st) h Q := PW_step rfl rfl rfl rfl
theorem u_146_147 (hx : pm_ix x X.2.1 = true) : PW B X 146 147 lv (.int x :: .ref X.1 :: st) h Q ↔ PW B X 146 148 lv (.int (X.2.2 x.toNatClampNeg) :: st) h Q := PW_sld rfl rfl hx
theorem u_146_148 : PW B X 146 148 [some (.ref a), v1, v2, v3] (st) h Q ↔ PW B X 146 149 [some (.ref a), v1, v2, v3] (.ref a :: st) h Q := PW_step rfl rfl rfl rfl
theorem u_146_148n : PW B X 146 148 [some .null, v1, v2, v3] (st) h Q ↔ PW B X 146 149 [some .null, v1, v2, v3] (.null :: st) h Q := PW_step rfl rfl rfl rfl
theorem u_146_149 : PW B X 146 149 [v0, v1, v2, some (.int x)] (st) h Q ↔ PW B X 146 150 [v0, v1, v2, some (.int x)] (.int x :: st) h Q := PW_step rfl rfl rfl rfl
theorem u_146_150 : PW B X 146 150 lv (st) h Q ↔ PW B X 146 151 lv (.int 2 :: st) h Q := PW_step rfl rfl rfl rfl
theorem u_146_151 : PW B X 146 151 lv (.int y :: .int x :: st) h Q ↔ PW B X 146 152 lv (.int (x + y) :: st) h Q := PW_step rfl rfl rfl rfl
theorem u_146_152 (hx : pm_ix x X.2.1 = true) : PW B X 146 152 lv (.int x :: .ref X.1 :: st) h Q ↔ PW B X 146 153 lv (.int (X.2.2 x.toNatClampNeg) :: st) h Q := PW_sld rfl rfl hx
theorem u_146_153 : PW B X 146 153 lv (.int q1 :: .int q0 :: .ref a :: st) h Q ↔ (pm_w st ≤ 8 ∧ pm_io B h a 10 = true ∧ PW B X 93 0 [some (.ref a), some (.int q0), some (.int q1)] [] h (fun r h' => PW B X 146 156 lv (r.toList ++ st) h' Q)) := PW_cv (y := 93) (as := [.int q0, .int q1]) (rest := st) rfl rfl rfl rfl rfl ⟨Nat.le_of_ble_eq_true rfl, Nat.le_of_ble_eq_true rfl, Nat.le_of_ble_eq_true rfl⟩
theorem u_146_156 : PW B X 146 156 lv (.int y :: .int x :: st) h Q ↔ (if x = y then PW B X 146 823 lv (st) h Q else PW B X 146 159 lv (st) h Q) := PW_icmp rfl rfl pm_c_eq
theorem u_146_159 : PW B X 146 159 lv (st) h Q ↔ PW B X 146 160 lv (.int 0 :: st) h Q := PW_step rfl rfl rfl rfl
theorem u_146_160 (hx : narrow .boolean (.int x) = .int x) : PW B X 146 160 lv ([.int x]) h Q ↔ Q (some (.int x)) h := PW_bret rfl rfl (by simp) hx
theorem u_146_160_0 : PW B X 146 160 lv ([.int 0]) h Q ↔ Q (some (.int 0)) h := u_146_160 rfl
theorem u_146_160_1 : PW B X 146 160 lv ([.int 1]) h Q ↔ Q (some (.int 1)) h := u_146_160 rfl
theorem u_146_161 : PW B X 146 161 [v0, some (.ref a), v2, v3] (st) h Q ↔ PW B X 146 162 [v0, some (.ref a), v2, v3] (.ref a :: st) h Q := PW_step rfl rfl rfl rfl
theorem u_146_161n : PW B X 146 161 [v0, some .null, v2, v3] (st) h Q ↔ PW B X 146 162 [v0, some .null, v2, v3] (.null :: st) h Q := PW_step rfl rfl rfl rfl
theorem u_146_162 : PW B X 146 162 [some (.ref a), v1, v2, v3] (st) h Q ↔ PW B X 146 163 [some (.ref a), v1, v2, v3] (.ref a :: st) h Q := PW_step rfl rfl rfl rfl
theorem u_146_162n : PW B X 146 162 [some .null, v1, v2, v3] (st) h Q ↔ PW B X 146 163 [some .null, v1, v2, v3] (.null :: st) h Q := PW_step rfl rfl rfl rfl
theorem u_146_163 : PW B X 146 163 [v0, v1, v2, some (.int x)] (st) h Q ↔ PW B X 146 164 [v0, v1, v2, some (.int x)] (.int x :: st) h Q := PW_step rfl rfl rfl rfl
theorem u_146_164 : PW B X 146 164 lv (st) h Q ↔ PW B X 146 165 lv (.int 1 :: st) h Q := PW_step rfl rfl rfl rfl
theorem u_146_165 : PW B X 146 165 lv (.int y :: .int x :: st) h Q ↔ PW B X 146 166 lv (.int (x + y) :: st) h Q := PW_step rfl rfl rfl rfl
theorem u_146_166 (hx : pm_ix x X.2.1 = true) : PW B X 146 166 lv (.int x :: .ref X.1 :: st) h Q ↔ PW B X 146 167 lv (.int (X.2.2 x.toNatClampNeg) :: st) h Q := PW_sld rfl rfl hx
theorem u_146_167 : PW B X 146 167 [some (.ref a), v1, v2, v3] (st) h Q ↔ PW B X 146 168 [some (.ref a), v1, v2, v3] (.ref a :: st) h Q := PW_step rfl rfl rfl rfl
theorem u_146_167n : PW B X 146 167 [some .null, v1, v2, v3] (st) h Q ↔ PW B X 146 168 [some .null, v1, v2, v3] (.null :: st) h Q := PW_step rfl rfl rfl rfl
theorem u_146_168 : PW B X 146 168 [v0, v1, v2, some (.int x)] (st) h Q ↔ PW B X 146 169 [v0, v1, v2, some (.int x)] (.int x :: st) h Q := PW_step rfl rfl rfl rfl
theorem u_146_169 : PW B X 146 169 lv (st) h Q ↔ PW B X 146 170 lv (.int 2 :: st) h Q := PW_step rfl rfl rfl rfl
theorem u_146_170 : PW B X 146 170 lv (.int y :: .int x :: st) h Q ↔ PW B X 146 171 lv (.int (x + y) :: st) h Q := PW_step rfl rfl rfl rfl
theorem u_146_171 (hx : pm_ix x X.2.1 = true) : PW B X 146 171 lv (.int x :: .ref X.1 :: st) h Q ↔ PW B X 146 172 lv (.int (X.2.2 x.toNatClampNeg) :: st) h Q := PW_sld rfl rfl hx
theorem u_146_172 : PW B X 146 172 [some (.ref a), v1, v2, v3] (st) h Q ↔ PW B X 146 173 [some (.ref a), v1, v2, v3] (.ref a :: st) h Q := PW_step rfl rfl rfl rfl
theorem u_146_172n : PW B X 146 172 [some .null, v1, v2, v3] (st) h Q ↔ PW B X 146 173 [some .null, v1, v2, v3] (.null :: st) h Q := PW_step rfl rfl rfl rfl
theorem u_146_173 : PW B X 146 173 [v0, v1, v2, some (.int x)] (st) h Q ↔ PW B X 146 174 [v0, v1, v2, some (.int x)] (.int x :: st) h Q := PW_step rfl rfl rfl rfl
theorem u_146_174 : PW B X 146 174 lv (st) h Q ↔ PW B X 146 175 lv (.int 3 :: st) h Q := PW_step rfl rfl rfl rfl
theorem u_146_175 : PW B X 146 175 lv (.int y :: .int x :: st) h Q ↔ PW B X 146 176 lv (.int (x + y) :: st) h Q := PW_step rfl rfl rfl rfl
theorem u_146_176 (hx : pm_ix x X.2.1 = true) : PW B X 146 176 lv (.int x :: .ref X.1 :: st) h Q ↔ PW B X 146 177 lv (.int (X.2.2 x.toNatClampNeg) :: st) h Q := PW_sld rfl rfl hx
theorem u_146_177 : PW B X 146 177 lv (.int x :: st) h Q ↔ (if x = 0 then PW B X 146 184 lv (st) h Q else PW B X 146 180 lv (st) h Q) := PW_if rfl rfl pm_c_eq
theorem u_146_180 : PW B X 146 180 lv (st) h Q ↔ PW B X 146 181 lv (.int 1 :: st) h Q := PW_step rfl rfl rfl rfl
theorem u_146_181 : PW B X 146 181 lv (st) h Q ↔ PW B X 146 185 lv (st) h Q := PW_step rfl rfl rfl rfl
theorem u_146_184 : PW B X 146 184 lv (st) h Q ↔ PW B X 146 185 lv (.int 0 :: st) h Q := PW_step rfl rfl rfl rfl
theorem u_146_185 : PW B X 146 185 lv (.int q2 :: .int q1 :: .int q0 :: .ref a :: st) h Q ↔ (pm_w st ≤ 8 ∧ pm_io B h a 0 = true ∧ PW B X 14 0 [some (.ref a), some (.int q0), some (.int q1), some (.int q2), none] [] h (fun r h' => PW B X 146 188 lv (r.toList ++ st) h' Q)) := PW_cv (y := 14) (as := [.int q0, .int q1, .int q2]) (rest := st) rfl rfl rfl rfl rfl ⟨Nat.le_of_ble_eq_true rfl, Nat.le_of_ble_eq_true rfl, Nat.le_of_ble_eq_true rfl⟩
theorem u_146_188 : PW B X 146 188 [v0, v1, some (.ref a), v3] (st) h Q ↔ PW B X 146 189 [v0, v1, some (.ref a), v3] (.ref a :: st) h Q := PW_step rfl rfl rfl rfl
theorem u_146_188n : PW B X 146 188 [v0, v1, some .null, v3] (st) h Q ↔ PW B X 146 189 [v0, v1, some .null, v3] (.null :: st) h Q := PW_step rfl rfl rfl rfl
theorem u_146_189 : PW B X 146 189 [some (.ref a), v1, v2, v3] (st) h Q ↔ PW B X 146 190 [some (.ref a), v1, v2, v3] (.ref a :: st) h Q := PW_step rfl rfl rfl rfl
theorem u_146_189n : PW B X 146 189 [some .null, v1, v2, v3] (st) h Q ↔ PW B X 146 190 [some .null, v1, v2, v3] (.null :: st) h Q := PW_step rfl rfl rfl rfl
theorem u_146_190 : PW B X 146 190 [v0, v1, v2, some (.int x)] (st) h Q ↔ PW B X 146 191 [v0, v1, v2, some (.int x)] (.int x :: st) h Q := PW_step rfl rfl rfl rfl
theorem u_146_191 : PW B X 146 191 lv (st) h Q ↔ PW B X 146 192 lv (.int 1 :: st) h Q := PW_step rfl rfl rfl rfl
theorem u_146_192 : PW B X 146 192 lv (.int y :: .int x :: st) h Q ↔ PW B X 146 193 lv (.int (x + y) :: st) h Q := PW_step rfl rfl rfl rfl
theorem u_146_193 (hx : pm_ix x X.2.1 = true) : PW B X 146 193 lv (.int x :: .ref X.1 :: st) h Q ↔ PW B X 146 194 lv (.int (X.2.2 x.toNatClampNeg) :: st) h Q := PW_sld rfl rfl hx
theorem u_146_194 : PW B X 146 194 [some (.ref a), v1, v2, v3] (st) h Q ↔ PW B X 146 195 [some (.ref a), v1, v2, v3] (.ref a :: st) h Q := PW_step rfl rfl rfl rfl
theorem u_146_194n : PW B X 146 194 [some .null, v1, v2, v3] (st) h Q ↔ PW B X 146 195 [some .null, v1, v2, v3] (.null :: st) h Q := PW_step rfl rfl rfl rfl
theorem u_146_195 : PW B X 146 195 [v0, v1, v2, some (.int x)] (st) h Q ↔ PW B X 146 196 [v0, v1, v2, some (.int x)] (.int x :: st) h Q := PW_step rfl rfl rfl rfl
theorem u_146_196 : PW B X 146 196 lv (st) h Q ↔ PW B X 146 197 lv (.int 2 :: st) h Q := PW_step rfl rfl rfl rfl
theorem u_146_197 : PW B X 146 197 lv (.int y :: .int x :: st) h Q ↔ PW B X 146 198 lv (.int (x + y) :: st) h Q := PW_step rfl rfl rfl rfl
theorem u_146_198 (hx : pm_ix x X.2.1 = true) : PW B X 146 198 lv (.int x :: .ref X.1 :: st) h Q ↔ PW B X 146 199 lv (.int (X.2.2 x.toNatClampNeg) :: st) h Q := PW_sld rfl rfl hx
theorem u_146_199 : PW B X 146 199 [some (.ref a), v1, v2, v3] (st) h Q ↔ PW B X 146 200 [some (.ref a), v1, v2, v3] (.ref a :: st) h Q := PW_step rfl rfl rfl rfl
theorem u_146_199n : PW B X 146 199 [some .null, v1, v2, v3] (st) h Q ↔ PW B X 146 200 [some .null, v1, v2, v3] (.null :: st) h Q := PW_step rfl rfl rfl rfl
theorem u_146_200 : PW B X 146 200 [v0, v1, v2, some (.int x)] (st) h Q ↔ PW B X 146 201 [v0, v1, v2, some (.int x)] (.int x :: st) h Q := PW_step rfl rfl rfl rfl
theorem u_146_201 : PW B X 146 201 lv (st) h Q ↔ PW B X 146 202 lv (.int 3 :: st) h Q := PW_step rfl rfl rfl rfl
theorem u_146_202 : PW B X 146 202 lv (.int y :: .int x :: st) h Q ↔ PW B X 146 203 lv (.int (x + y) :: st) h Q := PW_step rfl rfl rfl rfl
theorem u_146_203 (hx : pm_ix x X.2.1 = true) : PW B X 146 203 lv (.int x :: .ref X.1 :: st) h Q ↔ PW B X 146 204 lv (.int (X.2.2 x.toNatClampNeg) :: st) h Q := PW_sld rfl rfl hx
theorem u_146_204 : PW B X 146 204 lv (.int x :: st) h Q ↔ (if x = 0 then PW B X 146 211 lv (st) h Q else PW B X 146 207 lv (st) h Q) := PW_if rfl rfl pm_c_eq
theorem u_146_207 : PW B X 146 207 lv (st) h Q ↔ PW B X 146 208 lv (.int 1 :: st) h Q := PW_step rfl rfl rfl rfl
theorem u_146_208 : PW B X 146 208 lv (st) h Q ↔ PW B X 146 212 lv (st) h Q := PW_step rfl rfl rfl rfl
theorem u_146_211 : PW B X 146 211 lv (st) h Q ↔ PW B X 146 212 lv (.int 0 :: st) h Q := PW_step rfl rfl rfl rfl
theorem u_146_212 : PW B X 146 212 lv (.int q2 :: .int q1 :: .int q0 :: .ref a :: st) h Q ↔ (pm_w st ≤ 8 ∧ pm_io B h a 10 = true ∧ PW B X 95 0 [some (.ref a), some (.int q0), some (.int q1), some (.int q2)] [] h (fun r h' => PW B X 146 215 lv (r.toList ++ st) h' Q)) := PW_cv (y := 95) (as := [.int q0, .int q1, .int q2]) (rest := st) rfl rfl rfl rfl rfl ⟨Nat.le_of_ble_eq_true rfl, Nat.le_of_ble_eq_true rfl, Nat.le_of_ble_eq_true rfl⟩
theorem u_146_215 : PW B X 146 215 lv (.int y :: .int x :: st) h Q ↔ (if x = y then PW B X 146 823 lv (st) h Q else PW B X 146 218 lv (st) h Q) := PW_icmp rfl rfl pm_c_eq
theorem u_146_218 : PW B X 146 218 lv (st) h Q ↔ PW B X 146 219 lv (.int 0 :: st) h Q := PW_step rfl rfl rfl rfl
theorem u_146_219 (hx : narrow .boolean (.int x) = .int x) : PW B X 146 219 lv ([.int x]) h Q ↔ Q (some (.int x)) h := PW_bret rfl rfl (by simp) hx
theorem u_146_219_0 : PW B X 146 219 lv ([.int 0]) h Q ↔ Q (some (.int 0)) h := u_146_219 rfl
theorem u_146_219_1 : PW B X 146 219 lv ([.int 1]) h Q ↔ Q (some (.int 1)) h := u_146_219 rfl
theorem u_146_220 : PW B X 146 220 [v0, some (.ref a), v2, v3] (st) h Q ↔ PW B X 146 221 [v0, some (.ref a), v2, v3] (.ref a :: st) h Q := PW_step rfl rfl rfl rfl
theorem u_146_220n : PW B X 146 220 [v0, some .null, v2, v3] (st) h Q ↔ PW B X 146 221 [v0, some .null, v2, v3] (.null :: st) h Q := PW_step rfl rfl rfl rfl
theorem u_146_221 : PW B X 146 221 [some (.ref a), v1, v2, v3] (st) h Q ↔ PW B X 146 222 [some (.ref a), v1, v2, v3] (.ref a :: st) h Q := PW_step rfl rfl rfl rfl
theorem u_146_221n : PW B X 146 221 [some .null, v1, v2, v3] (st) h Q ↔ PW B X 146 222 [some .null, v1, v2, v3] (.null :: st) h Q := PW_step rfl rfl rfl rfl
theorem u_146_222 : PW B X 146 222 [v0, v1, v2, some (.int x)] (st) h Q ↔ PW B X 146 223 [v0, v1, v2, some (.int x)] (.int x :: st) h Q := PW_step rfl rfl rfl rfl
theorem u_146_223 : PW B X 146 223 lv (st) h Q ↔ PW B X 146 224 lv (.int 1 :: st) h Q := PW_step rfl rfl rfl rfl
theorem u_146_224 : PW B X 146 224 lv (.int y :: .int x :: st) h Q ↔ PW B X 146 225 lv (.int (x + y) :: st) h Q := PW_step rfl rfl rfl rfl
theorem u_146_225 (hx : pm_ix x X.2.1 = true) : PW B X 146 225 lv (.int x :: .ref X.1 :: st) h Q ↔ PW B X 146 226 lv (.int (X.2.2 x.toNatClampNeg) :: st) h Q := PW_sld rfl rfl hx
theorem u_146_226 : PW B X 146 226 [some (.ref a), v1, v2, v3] (st) h Q ↔ PW B X 146 227 [some (.ref a), v1, v2, v3] (.ref a :: st) h Q := PW_step rfl rfl rfl rfl
theorem u_146_226n : PW B X 146 226 [some .null, v1, v2, v3] (st) h Q ↔ PW B X 146 227 [some .null, v1, v2, v3] (.null :: st) h Q := PW_step rfl rfl rfl rfl
theorem u_146_227 : PW B X 146 227 [v0, v1, v2, some (.int x)] (st) h Q ↔ PW B X 146 228 [v0, v1, v2, some (.int x)] (.int x :: st) h Q := PW_step rfl rfl rfl rfl
theorem u_146_228 : PW B X 146 228 lv (st) h Q ↔ PW B X 146 229 lv (.int 2 :: st) h Q := PW_step rfl rfl rfl rfl
theorem u_146_229 : PW B X 146 229 lv (.int y :: .int x :: st) h Q ↔ PW B X 146 230 lv (.int (x + y) :: st) h Q := PW_step rfl rfl rfl rfl
theorem u_146_230 (hx : pm_ix x X.2.1 = true) : PW B X 146 230 lv (.int x :: .ref X.1 :: st) h Q ↔ PW B X 146 231 lv (.int (X.2.2 x.toNatClampNeg) :: st) h Q := PW_sld rfl rfl hx
theorem u_146_231 : PW B X 146 231 [some (.ref a), v1, v2, v3] (st) h Q ↔ PW B X 146 232 [some (.ref a), v1, v2, v3] (.ref a :: st) h Q := PW_step rfl rfl rfl rfl
theorem u_146_231n : PW B X 146 231 [some .null, v1, v2, v3] (st) h Q ↔ PW B X 146 232 [some .null, v1, v2, v3] (.null :: st) h Q := PW_step rfl rfl rfl rfl
theorem u_146_232 : PW B X 146 232 [v0, v1, v2, some (.int x)] (st) h Q ↔ PW B X 146 233 [v0, v1, v2, some (.int x)] (.int x :: st) h Q := PW_step rfl rfl rfl rfl
theorem u_146_233 : PW B X 146 233 lv (st) h Q ↔ PW B X 146 234 lv (.int 3 :: st) h Q := PW_step rfl rfl rfl rfl
theorem u_146_234 : PW B X 146 234 lv (.int y :: .int x :: st) h Q ↔ PW B X 146 235 lv (.int (x + y) :: st) h Q := PW_step rfl rfl rfl rfl
theorem u_146_235 (hx : pm_ix x X.2.1 = true) : PW B X 146 235 lv (.int x :: .ref X.1 :: st) h Q ↔ PW B X 146 236 lv (.int (X.2.2 x.toNatClampNeg) :: st) h Q := PW_sld rfl rfl hx
theorem u_146_236 : PW B X 146 236 [some (.ref a), v1, v2, v3] (st) h Q ↔ PW B X 146 237 [some (.ref a), v1, v2, v3] (.ref a :: st) h Q := PW_step rfl rfl rfl rfl
theorem u_146_236n : PW B X 146 236 [some .null, v1, v2, v3] (st) h Q ↔ PW B X 146 237 [some .null, v1, v2, v3] (.null :: st) h Q := PW_step rfl rfl rfl rfl
theorem u_146_237 : PW B X 146 237 [v0, v1, v2, some (.int x)] (st) h Q ↔ PW B X 146 238 [v0, v1, v2, some (.int x)] (.int x :: st) h Q := PW_step rfl rfl rfl rfl
theorem u_146_238 : PW B X 146 238 lv (st) h Q ↔ PW B X 146 239 lv (.int 4 :: st) h Q := PW_step rfl rfl rfl rfl
theorem u_146_239 : PW B X 146 239 lv (.int y :: .int x :: st) h Q ↔ PW B X 146 240 lv (.int (x + y) :: st) h Q := PW_step rfl rfl rfl rfl
theorem u_146_240 (hx : pm_ix x X.2.1 = true) : PW B X 146 240 lv (.int x :: .ref X.1 :: st) h Q ↔ PW B X 146 241 lv (.int (X.2.2 x.toNatClampNeg) :: st) h Q := PW_sld rfl rfl hx
theorem u_146_241 : PW B X 146 241 [some (.ref a), v1, v2, v3] (st) h Q ↔ PW B X 146 242 [some (.ref a), v1, v2, v3] (.ref a :: st) h Q := PW_step rfl rfl rfl rfl
theorem u_146_241n : PW B X 146 241 [some .null, v1, v2, v3] (st) h Q ↔ PW B X 146 242 [some .null, v1, v2, v3] (.null :: st) h Q := PW_step rfl rfl rfl rfl
theorem u_146_242 : PW B X 146 242 [v0, v1, v2, some (.int x)] (st) h Q ↔ PW B X 146 243 [v0, v1, v2, some (.int x)] (.int x :: st) h Q := PW_step rfl rfl rfl rfl
theorem u_146_243 : PW B X 146 243 lv (st) h Q ↔ PW B X 146 244 lv (.int 5 :: st) h Q := PW_step rfl rfl rfl rfl
theorem u_146_244 : PW B X 146 244 lv (.int y :: .int x :: st) h Q ↔ PW B X 146 245 lv (.int (x + y) :: st) h Q := PW_step rfl rfl rfl rfl
theorem u_146_245 (hx : pm_ix x X.2.1 = true) : PW B X 146 245 lv (.int x :: .ref X.1 :: st) h Q ↔ PW B X 146 246 lv (.int (X.2.2 x.toNatClampNeg) :: st) h Q := PW_sld rfl rfl hx
theorem u_146_246 : PW B X 146 246 lv (.int q4 :: .int q3 :: .int q2 :: .int q1 :: .int q0 :: .ref a :: st) h Q ↔ (pm_w st ≤ 8 ∧ pm_io B h a 0 = true ∧ PW B X 16 0 [some (.ref a), some (.int q0), some (.int q1), some (.int q2), some (.int q3), some (.int q4), none] [] h (fun r h' => PW B X 146 249 lv (r.toList ++ st) h' Q)) := PW_cv (y := 16) (as := [.int q0, .int q1, .int q2, .int q3, .int q4]) (rest := st) rfl rfl rfl rfl rfl ⟨Nat.le_of_ble_eq_true rfl, Nat.le_of_ble_eq_true rfl, Nat.le_of_ble_eq_true rfl⟩
theorem u_146_249 : PW B X 146 249 [v0, v1, some (.ref a), v3] (st) h Q ↔ PW B X 146 250 [v0, v1, some (.ref a), v3] (.ref a :: st) h Q := PW_step rfl rfl rfl rfl
theorem u_146_249n : PW B X 146 249 [v0, v1, some .null, v3] (st) h Q ↔ PW B X 146 250 [v0, v1, some .null, v3] (.null :: st) h Q := PW_step rfl rfl rfl rfl
theorem u_146_250 : PW B X 146 250 [some (.ref a), v1, v2, v3] (st) h Q ↔ PW B X 146 251 [some (.ref a), v1, v2, v3] (.ref a :: st) h Q := PW_step rfl rfl rfl rfl
theorem u_146_250n : PW B X 146 250 [some .null, v1, v2, v3] (st) h Q ↔ PW B X 146 251 [some .null, v1, v2, v3] (.null :: st) h Q := PW_step rfl rfl rfl rfl
theorem u_146_251 : PW B X 146 251 [v0, v1, v2, some (.int x)] (st) h Q ↔ PW B X 146 252 [v0, v1, v2, some (.int x)] (.int x :: st) h Q := PW_step rfl rfl rfl rfl
theorem u_146_252 : PW B X 146 252 lv (st) h Q ↔ PW B X 146 253 lv (.int 1 :: st) h Q := PW_step rfl rfl rfl rfl
theorem u_146_253 : PW B X 146 253 lv (.int y :: .int x :: st) h Q ↔ PW B X 146 254 lv (.int (x + y) :: st) h Q := PW_step rfl rfl rfl rfl
theorem u_146_254 (hx : pm_ix x X.2.1 = true) : PW B X 146 254 lv (.int x :: .ref X.1 :: st) h Q ↔ PW B X 146 255 lv (.int (X.2.2 x.toNatClampNeg) :: st) h Q := PW_sld rfl rfl hx
theorem u_146_255 : PW B X 146 255 [some (.ref a), v1, v2, v3] (st) h Q ↔ PW B X 146 256 [some (.ref a), v1, v2, v3] (.ref a :: st) h Q := PW_step rfl rfl rfl rfl
theorem u_146_255n : PW B X 146 255 [some .null, v1, v2, v3] (st) h Q ↔ PW B X 146 256 [some .null, v1, v2, v3] (.null :: st) h Q := PW_step rfl rfl rfl rfl
theorem u_146_256 : PW B X 146 256 [v0, v1, v2, some (.int x)] (st) h Q ↔ PW B X 146 257 [v0, v1, v2, some (.int x)] (.int x :: st) h Q := PW_step rfl rfl rfl rfl
theorem u_146_257 : PW B X 146 257 lv (st) h Q ↔ PW B X 146 258 lv (.int 2 :: st) h Q := PW_step rfl rfl rfl rfl
theorem u_146_258 : PW B X 146 258 lv (.int y :: .int x :: st) h Q ↔ PW B X 146 259 lv (.int (x + y) :: st) h Q := PW_step rfl rfl rfl rfl
theorem u_146_259 (hx : pm_ix x X.2.1 = true) : PW B X 146 259 lv (.int x :: .ref X.1 :: st) h Q ↔ PW B X 146 260 lv (.int (X.2.2 x.toNatClampNeg) :: st) h Q := PW_sld rfl rfl hx
theorem u_146_260 : PW B X 146 260 [some (.ref a), v1, v2, v3] (st) h Q ↔ PW B X 146 261 [some (.ref a), v1, v2, v3] (.ref a :: st) h Q := PW_step rfl rfl rfl rfl
theorem u_146_260n : PW B X 146 260 [some .null, v1, v2, v3] (st) h Q ↔ PW B X 146 261 [some .null, v1, v2, v3] (.null :: st) h Q := PW_step rfl rfl rfl rfl
theorem u_146_261 : PW B X 146 261 [v0, v1, v2, some (.int x)] (st) h Q ↔ PW B X 146 262 [v0, v1, v2, some (.int x)] (.int x :: st) h Q := PW_step rfl rfl rfl rfl
theorem u_146_262 : PW B X 146 262 lv (st) h Q ↔ PW B X 146 263 lv (.int 3 :: st) h Q := PW_step rfl rfl rfl rfl
theorem u_146_263 : PW B X 146 263 lv (.int y :: .int x :: st) h Q ↔ PW B X 146 264 lv (.int (x + y) :: st) h Q := PW_step rfl rfl rfl rfl
theorem u_146_264 (hx : pm_ix x X.2.1 = true) : PW B X 146 264 lv (.int x :: .ref X.1 :: st) h Q ↔ PW B X 146 265 lv (.int (X.2.2 x.toNatClampNeg) :: st) h Q := PW_sld rfl rfl hx
theorem u_146_265 : PW B X 146 265 [some (.ref a), v1, v2, v3] (st) h Q ↔ PW B X 146 266 [some (.ref a), v1, v2, v3] (.ref a :: st) h Q := PW_step rfl rfl rfl rfl
theorem u_146_265n : PW B X 146 265 [some .null, v1, v2, v3] (st) h Q ↔ PW B X 146 266 [some .null, v1, v2, v3] (.null :: st) h Q := PW_step rfl rfl rfl rfl
theorem u_146_266 : PW B X 146 266 [v0, v1, v2, some (.int x)] (st) h Q ↔ PW B X 146 267 [v0, v1, v2, some (.int x)] (.int x :: st) h Q := PW_step rfl rfl rfl rfl
theorem u_146_267 : PW B X 146 267 lv (st) h Q ↔ PW B X 146 268 lv (.int 4 :: st) h Q := PW_step rfl rfl rfl rfl
theorem u_146_268 : PW B X 146 268 lv (.int y :: .int x :: st) h Q ↔ PW B X 146 269 lv (.int (x + y) :: st) h Q := PW_step rfl rfl rfl rfl
theorem u_146_269 (hx : pm_ix x X.2.1 = true) : PW B X 146 269 lv (.int x :: .ref X.1 :: st) h Q ↔ PW B X 146 270 lv (.int (X.2.2 x.toNatClampNeg) :: st) h Q := PW_sld rfl rfl hx
theorem u_146_270 : PW B X 146 270 [some (.ref a), v1, v2, v3] (st) h Q ↔ PW B X 146 271 [some (.ref a), v1, v2, v3] (.ref a :: st) h Q := PW_step rfl rfl rfl rfl
theorem u_146_270n : PW B X 146 270 [some .null, v1, v2, v3] (st) h Q ↔ PW B X 146 271 [some .null, v1, v2, v3] (.null :: st) h Q := PW_step rfl rfl rfl rfl
theorem u_146_271 : PW B X 146 271 [v0, v1, v2, some (.int x)] (st) h Q ↔ PW B X 146 272 [v0, v1, v2, some (.int x)] (.int x :: st) h Q := PW_step rfl rfl rfl rfl
theorem u_146_272 : PW B X 146 272 lv (st) h Q ↔ PW B X 146 273 lv (.int 5 :: st) h Q := PW_step rfl rfl rfl rfl
theorem u_146_273 : PW B X 146 273 lv (.int y :: .int x :: st) h Q ↔ PW B X 146 274 lv (.int (x + y) :: st) h Q := PW_step rfl rfl rfl rfl
theorem u_146_274 (hx : pm_ix x X.2.1 = true) : PW B X 146 274 lv (.int x :: .ref X.1 :: st) h Q ↔ PW B X 146 275 lv (.int (X.2.2 x.toNatClampNeg) :: st) h Q := PW_sld rfl rfl hx
theorem u_146_275 : PW B X 146 275 lv (.int q4 :: .int q3 :: .int q2 :: .int q1 :: .int q0 :: .ref a :: st) h Q ↔ (pm_w st ≤ 8 ∧ pm_io B h a 10 = true ∧ PW B X 97 0 [some (.ref a), some (.int q0), some (.int q1), some (.int q2), some (.int q3), some (.int q4), none] [] h (fun r h' => PW B X 146 278 lv (r.toList ++ st) h' Q)) := PW_cv (y := 97) (as := [.int q0, .int q1, .int q2, .int q3, .int q4]) (rest := st) rfl rfl rfl rfl rfl ⟨Nat.le_of_ble_eq_true rfl, Nat.le_of_ble_eq_true rfl, Nat.le_of_ble_eq_true rfl⟩
theorem u_146_278 : PW B X 146 278 lv (.int y :: .int x :: st) h Q ↔ (if x = y then PW B X 146 823 lv (st) h Q else PW B X 146 281 lv (st) h Q) := PW_icmp rfl rfl pm_c_eq
theorem u_146_281 : PW B X 146 281 lv (st) h Q ↔ PW B X 146 282 lv (.int 0 :: st) h Q := PW_step rfl rfl rfl rfl
theorem u_146_282 (hx : narrow .boolean (.int x) = .int x) : PW B X 146 282 lv ([.int x]) h Q ↔ Q (some (.int x)) h := PW_bret rfl rfl (by simp) hx
theorem u_146_282_0 : PW B X 146 282 lv ([.int 0]) h Q ↔ Q (some (.int 0)) h := u_146_282 rfl
theorem u_146_282_1 : PW B X 146 282 lv ([.int 1]) h Q ↔ Q (some (.int 1)) h := u_146_282 rfl
theorem u_146_283 : PW B X 146 283 [v0, some (.ref a), v2, v3] (st) h Q ↔ PW B X 146 284 [v0, some (.ref a), v2, v3] (.ref a :: st) h Q := PW_step rfl rfl rfl rfl
theorem u_146_283n : PW B X 146 283 [v0, some .null, v2, v3] (st) h Q ↔ PW B X 146 284 [v0, some .null, v2, v3] (.null :: st) h Q := PW_step rfl rfl rfl rfl
theorem u_146_284 : PW B X 146 284 [some (.ref a), v1, v2, v3] (st) h Q ↔ PW B X 146 285 [some (.ref a), v1, v2, v3] (.ref a :: st) h Q := PW_step rfl rfl rfl rfl
theorem u_146_284n : PW B X 146 284 [some .null, v1, v2, v3] (st) h Q ↔ PW B X 146 285 [some .null, v1, v2, v3] (.null :: st) h Q := PW_step rfl rfl rfl rfl
theorem u_146_285 : PW B X 146 285 [v0, v1, v2, some (.int x)] (st) h Q ↔ PW B X 146 286 [v0, v1, v2, some (.int x)] (.int x :: st) h Q := PW_step rfl rfl rfl rfl
theorem u_146_286 : PW B X 146 286 lv (st) h Q ↔ PW B X 146 287 lv (.int 1 :: st) h Q := PW_step rfl rfl rfl rfl
theorem u_146_287 : PW B X 146 287 lv (.int y :: .int x :: st) h Q ↔ PW B X 146 288 lv (.int (x + y) :: st) h Q := PW_step rfl rfl rfl rfl
theorem u_146_288 (hx : pm_ix x X.2.1 = true) : PW B X 146 288 lv (.int x :: .ref X.1 :: st) h Q ↔ PW B X 146 289 lv (.int (X.2.2 x.toNatClampNeg) :: st) h Q := PW_sld rfl rfl hx
theorem u_146_289 : PW B X 146 289 lv (.int q0 :: .ref a :: st) h Q ↔ (pm_w st ≤ 8 ∧ pm_io B h a 0 = true ∧ PW B X 18 0 [some (.ref a), some (.int q0)] [] h (fun r h' => PW B X 146 292 lv (r.toList ++ st) h' Q)) := PW_cv (y := 18) (as := [.int q0]) (rest := st) rfl rfl rfl rfl rfl ⟨Nat.le_of_ble_eq_true rfl, Nat.le_of_ble_eq_true rfl, Nat.le_of_ble_eq_true rfl⟩
theorem u_146_292 : PW B X 146 292 [v0, v1, some (.ref a), v3] (st) h Q ↔ PW B X 146 293 [v0, v1, some (.ref a), v3] (.ref a :: st) h Q := PW_step rfl rfl rfl rfl
theorem u_146_292n : PW B X 146 292 [v0, v1, some .null, v3] (st) h Q ↔ PW B X 146 293 [v0, v1, some .null, v3] (.null :: st) h Q := PW_step rfl rfl rfl rfl
theorem u_146_293 : PW B X 146 293 [some (.ref a), v1, v2, v3] (st) h Q ↔ PW B X 146 294 [some (.ref a), v1, v2, v3] (.ref a :: st) h Q := PW_step rfl rfl rfl rfl
theorem u_146_293n : PW B X 146 293 [some .null, v1, v2, v3] (st) h Q ↔ PW B X 146 294 [some .null, v1, v2, v3] (.null :: st) h Q := PW_step rfl rfl rfl rfl
theorem u_146_294 : PW B X 146 294 [v0, v1, v2, some (.int x)] (st) h Q ↔ PW B X 146 295 [v0, v1, v2, some (.int x)] (.int x :: st) h Q := PW_step rfl rfl rfl rfl
theorem u_146_295 : PW B X 146 295 lv (st) h Q ↔ PW B X 146 296 lv (.int 1 :: st) h Q := PW_step rfl rfl rfl rfl
theorem u_146_296 : PW B X 146 296 lv (.int y :: .int x :: st) h Q ↔ PW B X 146 297 lv (.int (x + y) :: st) h Q := PW_step rfl rfl rfl rfl
theorem u_146_297 (hx : pm_ix x X.2.1 = true) : PW B X 146 297 lv (.int x :: .ref X.1 :: st) h Q ↔ PW B X 146 298 lv (.int (X.2.2 x.toNatClampNeg) :: st) h Q := PW_sld rfl rfl hx
theorem u_146_298 : PW B X 146 298 lv (.int q0 :: .ref a :: st) h Q ↔ (pm_w st ≤ 8 ∧ pm_io B h a 10 = true ∧ PW B X 98 0 [some (.ref a), some (.int q0)] [] h (fun r h' => PW B X 146 301 lv (r.toList ++ st) h' Q)) := PW_cv (y := 98) (as := [.int q0]) (rest := st) rfl rfl rfl rfl rfl ⟨Nat.le_of_ble_eq_true rfl, Nat.le_of_ble_eq_true rfl, Nat.le_of_ble_eq_true rfl⟩
theorem u_146_301 : PW B X 146 301 lv (.int y :: .int x :: st) h Q ↔ (if x = y then PW B X 146 823 lv (st) h Q else PW B X 146 304 lv (st) h Q) := PW_icmp rfl rfl pm_c_eq
theorem u_146_304 : PW B X 146 304 lv (st) h Q ↔ PW B X 146 305 lv (.int 0 :: st) h Q := PW_step rfl rfl rfl rfl
theorem u_146_305 (hx : narrow .boolean (.int x) = .int x) : PW B X 146 305 lv ([.int x]) h Q ↔ Q (some (.int x)) h := PW_bret rfl rfl (by simp) hx
theorem u_146_305_0 : PW B X 146 305 lv ([.int 0]) h Q ↔ Q (some (.int 0)) h := u_146_305 rfl
theorem u_146_305_1 : PW B X 146 305 lv ([.int 1]) h Q ↔ Q (some (.int 1)) h := u_146_305 rfl
theorem u_146_306 : PW B X 146 306 [v0, some (.ref a), v2, v3] (st) h Q ↔ PW B X 146 307 [v0, some (.ref a), v2, v3] (.ref a :: st) h Q := PW_step rfl rfl rfl rfl
theorem u_146_306n : PW B X 146 306 [v0, some .null, v2, v3] (st) h Q ↔ PW B X 146 307 [v0, some .null, v2, v3] (.null :: st) h Q := PW_step rfl rfl rfl rfl
theorem u_146_307 : PW B X 146 307 lv (.ref a :: st) h Q ↔ (pm_w st ≤ 8 ∧ pm_io B h a 0 = true ∧ PW B X 20 0 [some (.ref a), none, none] [] h (fun r h' => PW B X 146 310 lv (r.toList ++ st) h' Q)) := PW_cv (y := 20) (as := []) (rest := st) rfl rfl rfl rfl rfl ⟨Nat.le_of_ble_eq_true rfl, Nat.le_of_ble_eq_true rfl, Nat.le_of_ble_eq_true rfl⟩
theorem u_146_310 : PW B X 146 310 [v0, v1, some (.ref a), v3] (st) h Q ↔ PW B X 146 311 [v0, v1, some (.ref a), v3] (.ref a :: st) h Q := PW_step rfl rfl rfl rfl
theorem u_146_310n : PW B X 146 310 [v0, v1, some .null, v3] (st) h Q ↔ PW B X 146 311 [v0, v1, some .null, v3] (.null :: st) h Q := PW_step rfl rfl rfl rfl
theorem u_146_311 : PW B X 146 311 lv (.ref a :: st) h Q ↔ (pm_w st ≤ 8 ∧ pm_io B h a 10 = true ∧ PW B X 99 0 [some (.ref a), none, none] [] h (fun r h' => PW B X 146 314 lv (r.toList ++ st) h' Q)) := PW_cv (y := 99) (as := []) (rest := st) rfl rfl rfl rfl rfl ⟨Nat.le_of_ble_eq_true rfl, Nat.le_of_ble_eq_true rfl, Nat.le_of_ble_eq_true rfl⟩
theorem u_146_314 : PW B X 146 314 lv (.int y :: .int x :: st) h Q ↔ (if x = y then PW B X 146 823 lv (st) h Q else PW B X 146 317 lv (st) h Q) := PW_icmp rfl rfl pm_c_eq
theorem u_146_317 : PW B X 146 317 lv (st) h Q ↔ PW B X 146 318 lv (.int 0 :: st) h Q := PW_step rfl rfl rfl rfl
theorem u_146_318 (hx : narrow .boolean (.int x) = .int x) : PW B X 146 318 lv ([.int x]) h Q ↔ Q (some (.int x)) h := PW_bret rfl rfl (by simp) hx
theorem u_146_318_0 : PW B X 146 318 lv ([.int 0]) h Q ↔ Q (some (.int 0)) h := u_146_318 rfl
theorem u_146_318_1 : PW B X 146 318 lv ([.int 1]) h Q ↔ Q (some (.int 1)) h := u_146_318 rfl
theorem u_146_319 : PW B X 146 319 [v0, some (.ref a), v2, v3] (st) h Q ↔ PW B X 146 320 [v0, some (.ref a), v2, v3] (.ref a :: st) h Q := PW_step rfl rfl rfl rfl
theorem u_146_319n : PW B X 146 319 [v0, some .null, v2, v3] (st) h Q ↔ PW B X 146 320 [v0, some .null, v2, v3] (.null :: st) h Q := PW_step rfl rfl rfl rfl
theorem u_146_320 : PW B X 146 320 [some (.ref a), v1, v2, v3] (st) h Q ↔ PW B X 146 321 [some (.ref a), v1, v2, v3] (.ref a :: st) h Q := PW_step rfl rfl rfl rfl
theorem u_146_320n : PW B X 146 320 [some .null, v1, v2, v3] (st) h Q ↔ PW B X 146 321 [some .null, v1, v2, v3] (.null :: st) h Q := PW_step rfl rfl rfl rfl
theorem u_146_321 : PW B X 146 321 [v0, v1, v2, some (.int x)] (st) h Q ↔ PW B X 146 322 [v0, v1, v2, some (.int x)] (.int x :: st) h Q := PW_step rfl rfl rfl rfl
theorem u_146_322 : PW B X 146 322 lv (st) h Q ↔ PW B X 146 323 lv (.int 1 :: st) h Q := PW_step rfl rfl rfl rfl
theorem u_146_323 : PW B X 146 323 lv (.int y :: .int x :: st) h Q ↔ PW B X 146 324 lv (.int (x + y) :: st) h Q := PW_step rfl rfl rfl rfl
theorem u_146_324 (hx : pm_ix x X.2.1 = true) : PW B X 146 324 lv (.int x :: .ref X.1 :: st) h Q ↔ PW B X 146 325 lv (.int (X.2.2 x.toNatClampNeg) :: st) h Q := PW_sld rfl rfl hx
theorem u_146_325 : PW B X 146 325 [some (.ref a), v1, v2, v3] (st) h Q ↔ PW B X 146 326 [some (.ref a), v1, v2, v3] (.ref a :: st) h Q := PW_step rfl rfl rfl rfl
theorem u_146_325n : PW B X 146 325 [some .null, v1, v2, v3] (st) h Q ↔ PW B X 146 326 [some .null, v1, v2, v3] (.null :: st) h Q := PW_step rfl rfl rfl rfl
theorem u_146_326 : PW B X 146 326 [v0, v1, v2, some (.int x)] (st) h Q ↔ PW B X 146 327 [v0, v1, v2, some (.int x)] (.int x :: st) h Q := PW_step rfl rfl rfl rfl
theorem u_146_327 : PW B X 146 327 lv (st) h Q ↔ PW B X 146 328 lv (.int 2 :: st) h Q := PW_step rfl rfl rfl rfl
theorem u_146_328 : PW B X 146 328 lv (.int y :: .int x :: st) h Q ↔ PW B X 146 329 lv (.int (x + y) :: st) h Q := PW_step rfl rfl rfl rfl
theorem u_146_329 (hx : pm_ix x X.2.1 = true) : PW B X 146 329 lv (.int x :: .ref X.1 :: st) h Q ↔ PW B X 146 330 lv (.int (X.2.2 x.toNatClampNeg) :: st) h Q := PW_sld rfl rfl hx
theorem u_146_330 : PW B X 146 330 [some (.ref a), v1, v2, v3] (st) h Q ↔ PW B X 146 331 [some (.ref a), v1, v2, v3] (.ref a :: st) h Q := PW_step rfl rfl rfl rfl
theorem u_146_330n : PW B X 146 330 [some .null, v1, v2, v3] (st) h Q ↔ PW B X 146 331 [some .null, v1, v2, v3] (.null :: st) h Q := PW_step rfl rfl rfl rfl
theorem u_146_331 : PW B X 146 331 [v0, v1, v2, some (.int x)] (st) h Q ↔ PW B X 146 332 [v0, v1, v2, some (.int x)] (.int x :: st) h Q := PW_step rfl rfl rfl rfl
theorem u_146_332 : PW B X 146 332 lv (st) h Q ↔ PW B X 146 333 lv (.int 3 :: st) h Q := PW_step rfl rfl rfl rfl
theorem u_146_333 : PW B X 146 333 lv (.int y :: .int x :: st) h Q ↔ PW B X 146 334 lv (.int (x + y) :: st) h Q := PW_step rfl rfl rfl rfl
theorem u_146_334 (hx : pm_ix x X.2.1 = true) : PW B X 146 334 lv (.int x :: .ref X.1 :: st) h Q ↔ PW B X 146 335 lv (.int (X.2.2 x.toNatClampNeg) :: st) h Q := PW_sld rfl rfl hx
theorem u_146_335 : PW B X 146 335 [some (.ref a), v1, v2, v3] (st) h Q ↔ PW B X 146 336 [some (.ref a), v1, v2, v3] (.ref a :: st) h Q := PW_step rfl rfl rfl rfl
theorem u_146_335n : PW B X 146 335 [some .null, v1, v2, v3] (st) h Q ↔ PW B X 146 336 [some .null, v1, v2, v3] (.null :: st) h Q := PW_step rfl rfl rfl rfl
theorem u_146_336 : PW B X 146 336 [v0, v1, v2, some (.int x)] (st) h Q ↔ PW B X 146 337 [v0, v1, v2, some (.int x)] (.int x :: st) h Q := PW_step rfl rfl rfl rfl
theorem u_146_337 : PW B X 146 337 lv (st) h Q ↔ PW B X 146 338 lv (.int 4 :: st) h Q := PW_step rfl rfl rfl rfl
theorem u_146_338 : PW B X 146 338 lv (.int y :: .int x :: st) h Q ↔ PW B X 146 339 lv (.int (x + y) :: st) h Q := PW_step rfl rfl rfl rfl
theorem u_146_339 (hx : pm_ix x X.2.1 = true) : PW B X 146 339 lv (.int x :: .ref X.1 :: st) h Q ↔ PW B X 146 340 lv (.int (X.2.2 x.toNatClampNeg) :: st) h Q := PW_sld rfl rfl hx
theorem u_146_340 : PW B X 146 340 lv (.int q3 :: .int q2 :: .int q1 :: .int q0 :: .ref a :: st) h Q ↔ (pm_w st ≤ 8 ∧ pm_io B h a 0 = true ∧ PW B X 34 0 [some (.ref a), some (.int q0), some (.int q1), some (.int q2), some (.int q3), none] [] h (fun r h' => PW B X 146 343 lv (r.toList ++ st) h' Q)) := PW_cv (y := 34) (as := [.int q0, .int q1, .int q2, .int q3]) (rest := st) rfl rfl rfl rfl rfl ⟨Nat.le_of_ble_eq_true rfl, Nat.le_of_ble_eq_true rfl, Nat.le_of_ble_eq_true rfl⟩
theorem u_146_343 : PW B X 146 343 [v0, v1, some (.ref a), v3] (st) h Q ↔ PW B X 146 344 [v0, v1, some (.ref a), v3] (.ref a :: st) h Q := PW_step rfl rfl rfl rfl
theorem u_146_343n : PW B X 146 343 [v0, v1, some .null, v3] (st) h Q ↔ PW B X 146 344 [v0, v1, some .null, v3] (.null :: st) h Q := PW_step rfl rfl rfl rfl
theorem u_146_344 : PW B X 146 344 [some (.ref a), v1, v2, v3] (st) h Q ↔ PW B X 146 345 [some (.ref a), v1, v2, v3] (.ref a :: st) h Q := PW_step rfl rfl rfl rfl
theorem u_146_344n : PW B X 146 344 [some .null, v1, v2, v3] (st) h Q ↔ PW B X 146 345 [some .null, v1, v2, v3] (.null :: st) h Q := PW_step rfl rfl rfl rfl
theorem u_146_345 : PW B X 146 345 [v0, v1, v2, some (.int x)] (st) h Q ↔ PW B X 146 346 [v0, v1, v2, some (.int x)] (.int x :: st) h Q := PW_step rfl rfl rfl rfl
theorem u_146_346 : PW B X 146 346 lv (st) h Q ↔ PW B X 146 347 lv (.int 1 :: st) h Q := PW_step rfl rfl rfl rfl
theorem u_146_347 : PW B X 146 347 lv (.int y :: .int x :: st) h Q ↔ PW B X 146 348 lv (.int (x + y) :: st) h Q := PW_step rfl rfl rfl rfl
theorem u_146_348 (hx : pm_ix x X.2.1 = true) : PW B X 146 348 lv (.int x :: .ref X.1 :: st) h Q ↔ PW B X 146 349 lv (.int (X.2.2 x.toNatClampNeg) :: st) h Q := PW_sld rfl rfl hx
theorem u_146_349 : PW B X 146 349 [some (.ref a), v1, v2, v3] (st) h Q ↔ PW B X 146 350 [some (.ref a), v1, v2, v3] (.ref a :: st) h Q := PW_step rfl rfl rfl rfl
theorem u_146_349n : PW B X 146 349 [some .null, v1, v2, v3] (st) h Q ↔ PW B X 146 350 [some .null, v1, v2, v3] (.null :: st) h Q := PW_step rfl rfl rfl rfl
theorem u_146_350 : PW B X 146 350 [v0, v1, v2, some (.int x)] (st) h Q ↔ PW B X 146 351 [v0, v1, v2, some (.int x)] (.int x :: st) h Q := PW_step rfl rfl rfl rfl
theorem u_146_351 : PW B X 146 351 lv (st) h Q ↔ PW B X 146 352 lv (.int 2 :: st) h Q := PW_step rfl rfl rfl rfl
theorem u_146_352 : PW B X 146 352 lv (.int y :: .int x :: st) h Q ↔ PW B X 146 353 lv (.int (x + y) :: st) h Q := PW_step rfl rfl rfl rfl
theorem u_146_353 (hx : pm_ix x X.2.1 = true) : PW B X 146 353 lv (.int x :: .ref X.1 :: st) h Q ↔ PW B X 146 354 lv (.int (X.2.2 x.toNatClampNeg) :: st) h Q := PW_sld rfl rfl hx
theorem u_146_354 : PW B X 146 354 [some (.ref a), v1, v2, v3] (st) h Q ↔ PW B X 146 355 [some (.ref a), v1, v2, v3] (.ref a :: st) h Q := PW_step rfl rfl rfl rfl
theorem u_146_354n : PW B X 146 354 [some .null, v1, v2, v3] (st) h Q ↔ PW B X 146 355 [some .null, v1, v2, v3] (.null :: st) h Q := PW_step rfl rfl rfl rfl
theorem u_146_355 : PW B X 146 355 [v0, v1, v2, some (.int x)] (st) h Q ↔ PW B X 146 356 [v0, v1, v2, some (.int x)] (.int x :: st) h Q := PW_step rfl rfl rfl rfl
theorem u_146_356 : PW B X 146 356 lv (st) h Q ↔ PW B X 146 357 lv (.int 3 :: st) h Q := PW_step rfl rfl rfl rfl
theorem u_146_357 : PW B X 146 357 lv (.int y :: .int x :: st) h Q ↔ PW B X 146 358 lv (.int (x + y) :: st) h Q := PW_step rfl rfl rfl rfl
theorem u_146_358 (hx : pm_ix x X.2.1 = true) : PW B X 146 358 lv (.int x :: .ref X.1 :: st) h Q ↔ PW B X 146 359 lv (.int (X.2.2 x.toNatClampNeg) :: st) h Q := PW_sld rfl rfl hx
theorem u_146_359 : PW B X 146 359 [some (.ref a), v1, v2, v3] (st) h Q ↔ PW B X 146 360 [some (.ref a), v1, v2, v3] (.ref a :: st) h Q := PW_step rfl rfl rfl rfl
theorem u_146_359n : PW B X 146 359 [some .null, v1, v2, v3] (st) h Q ↔ PW B X 146 360 [some .null, v1, v2, v3] (.null :: st) h Q := PW_step rfl rfl rfl rfl
theorem u_146_360 : PW B X 146 360 [v0, v1, v2, some (.int x)] (st) h Q ↔ PW B X 146 361 [v0, v1, v2, some (.int x)] (.int x :: st) h Q := PW_step rfl rfl rfl rfl
theorem u_146_361 : PW B X 146 361 lv (st) h Q ↔ PW B X 146 362 lv (.int 4 :: st) h Q := PW_step rfl rfl rfl rfl
theorem u_146_362 : PW B X 146 362 lv (.int y :: .int x :: st) h Q ↔ PW B X 146 363 lv (.int (x + y) :: st) h Q := PW_step rfl rfl rfl rfl
theorem u_146_363 (hx : pm_ix x X.2.1 = true) : PW B X 146 363 lv (.int x :: .ref X.1 :: st) h Q ↔ PW B X 146 364 lv (.int (X.2.2 x.toNatClampNeg) :: st) h Q := PW_sld rfl rfl hx
theorem u_146_364 : PW B X 146 364 lv (.int q3 :: .int q2 :: .int q1 :: .int q0 :: .ref a :: st) h Q ↔ (pm_w st ≤ 8 ∧ pm_io B h a 10 = true ∧ PW B X 107 0 [some (.ref a), some (.int q0), some (.int q1), some (.int q2), some (.int q3)] [] h (fun r h' => PW B X 146 367 lv (r.toList ++ st) h' Q)) := PW_cv (y := 107) (as := [.int q0, .int q1, .int q2, .int q3]) (rest := st) rfl rfl rfl rfl rfl ⟨Nat.le_of_ble_eq_true rfl, Nat.le_of_ble_eq_true rfl, Nat.le_of_ble_eq_true rfl⟩
theorem u_146_367 : PW B X 146 367 lv (.long w :: .long z :: st) h Q ↔ PW B X 146 368 lv (.int (lg_cmp z w) :: st) h Q := PW_step rfl rfl rfl rfl
theorem u_146_368 : PW B X 146 368 lv (.int x :: st) h Q ↔ (if x = 0 then PW B X 146 823 lv (st) h Q else PW B X 146 371 lv (st) h Q) := PW_if rfl rfl pm_c_eq
theorem u_146_371 : PW B X 146 371 lv (st) h Q ↔ PW B X 146 372 lv (.int 0 :: st) h Q := PW_step rfl rfl rfl rfl
theorem u_146_372 (hx : narrow .boolean (.int x) = .int x) : PW B X 146 372 lv ([.int x]) h Q ↔ Q (some (.int x)) h := PW_bret rfl rfl (by simp) hx
theorem u_146_372_0 : PW B X 146 372 lv ([.int 0]) h Q ↔ Q (some (.int 0)) h := u_146_372 rfl
theorem u_146_372_1 : PW B X 146 372 lv ([.int 1]) h Q ↔ Q (some (.int 1)) h := u_146_372 rfl
theorem u_146_373 : PW B X 146 373 [v0, some (.ref a), v2, v3] (st) h Q ↔ PW B X 146 374 [v0, some (.ref a), v2, v3] (.ref a :: st) h Q := PW_step rfl rfl rfl rfl
theorem u_146_373n : PW B X 146 373 [v0, some .null, v2, v3] (st) h Q ↔ PW B X 146 374 [v0, some .null, v2, v3] (.null :: st) h Q := PW_step rfl rfl rfl rfl
theorem u_146_374 : PW B X 146 374 [some (.ref a), v1, v2, v3] (st) h Q ↔ PW B X 146 375 [some (.ref a), v1, v2, v3] (.ref a :: st) h Q := PW_step rfl rfl rfl rfl
theorem u_146_374n : PW B X 146 374 [some .null, v1, v2, v3] (st) h Q ↔ PW B X 146 375 [some .null, v1, v2, v3] (.null :: st) h Q := PW_step rfl rfl rfl rfl
theorem u_146_375 : PW B X 146 375 [v0, v1, v2, some (.int x)] (st) h Q ↔ PW B X 146 376 [v0, v1, v2, some (.int x)] (.int x :: st) h Q := PW_step rfl rfl rfl rfl
theorem u_146_376 : PW B X 146 376 lv (st) h Q ↔ PW B X 146 377 lv (.int 1 :: st) h Q := PW_step rfl rfl rfl rfl
theorem u_146_377 : PW B X 146 377 lv (.int y :: .int x :: st) h Q ↔ PW B X 146 378 lv (.int (x + y) :: st) h Q := PW_step rfl rfl rfl rfl
theorem u_146_378 (hx : pm_ix x X.2.1 = true) : PW B X 146 378 lv (.int x :: .ref X.1 :: st) h Q ↔ PW B X 146 379 lv (.int (X.2.2 x.toNatClampNeg) :: st) h Q := PW_sld rfl rfl hx
theorem u_146_379 : PW B X 146 379 [some (.ref a), v1, v2, v3] (st) h Q ↔ PW B X 146 380 [some (.ref a), v1, v2, v3] (.ref a :: st) h Q := PW_step rfl rfl rfl rfl
theorem u_146_379n : PW B X 146 379 [some .null, v1, v2, v3] (st) h Q ↔ PW B X 146 380 [some .null, v1, v2, v3] (.null :: st) h Q := PW_step rfl rfl rfl rfl
theorem u_146_380 : PW B X 146 380 [v0, v1, v2, some (.int x)] (st) h Q ↔ PW B X 146 381 [v0, v1, v2, some (.int x)] (.int x :: st) h Q := PW_step rfl rfl rfl rfl
theorem u_146_381 : PW B X 146 381 lv (st) h Q ↔ PW B X 146 382 lv (.int 2 :: st) h Q := PW_step rfl rfl rfl rfl
theorem u_146_382 : PW B X 146 382 lv (.int y :: .int x :: st) h Q ↔ PW B X 146 383 lv (.int (x + y) :: st) h Q := PW_step rfl rfl rfl rfl
theorem u_146_383 (hx : pm_ix x X.2.1 = true) : PW B X 146 383 lv (.int x :: .ref X.1 :: st) h Q ↔ PW B X 146 384 lv (.int (X.2.2 x.toNatClampNeg) :: st) h Q := PW_sld rfl rfl hx
theorem u_146_384 : PW B X 146 384 [some (.ref a), v1, v2, v3] (st) h Q ↔ PW B X 146 385 [some (.ref a), v1, v2, v3] (.ref a :: st) h Q := PW_step rfl rfl rfl rfl
theorem u_146_384n : PW B X 146 384 [some .null, v1, v2, v3] (st) h Q ↔ PW B X 146 385 [some .null, v1, v2, v3] (.null :: st) h Q := PW_step rfl rfl rfl rfl
theorem u_146_385 : PW B X 146 385 [v0, v1, v2, some (.int x)] (st) h Q ↔ PW B X 146 386 [v0, v1, v2, some (.int x)] (.int x :: st) h Q := PW_step rfl rfl rfl rfl
theorem u_146_386 : PW B X 146 386 lv (st) h Q ↔ PW B X 146 387 lv (.int 3 :: st) h Q := PW_step rfl rfl rfl rfl
theorem u_146_387 : PW B X 146 387 lv (.int y :: .int x :: st) h Q ↔ PW B X 146 388 lv (.int (x + y) :: st) h Q := PW_step rfl rfl rfl rfl
theorem u_146_388 (hx : pm_ix x X.2.1 = true) : PW B X 146 388 lv (.int x :: .ref X.1 :: st) h Q ↔ PW B X 146 389 lv (.int (X.2.2 x.toNatClampNeg) :: st) h Q := PW_sld rfl rfl hx
theorem u_146_389 : PW B X 146 389 lv (.int q2 :: .int q1 :: .int q0 :: .ref a :: st) h Q ↔ (pm_w st ≤ 8 ∧ pm_io B h a 0 = true ∧ PW B X 63 0 [some (.ref a), some (.int q0), some (.int q1), some (.int q2), none] [] h (fun r h' => PW B X 146 392 lv (r.toList ++ st) h' Q)) := PW_cv (y := 63) (as := [.int q0, .int q1, .int q2]) (rest := st) rfl rfl rfl rfl rfl ⟨Nat.le_of_ble_eq_true rfl, Nat.le_of_ble_eq_true rfl, Nat.le_of_ble_eq_true rfl⟩
theorem u_146_392 : PW B X 146 392 [v0, v1, some (.ref a), v3] (st) h Q ↔ PW B X 146 393 [v0, v1, some (.ref a), v3] (.ref a :: st) h Q := PW_step rfl rfl rfl rfl
theorem u_146_392n : PW B X 146 392 [v0, v1, some .null, v3] (st) h Q ↔ PW B X 146 393 [v0, v1, some .null, v3] (.null :: st) h Q := PW_step rfl rfl rfl rfl
theorem u_146_393 : PW B X 146 393 [some (.ref a), v1, v2, v3] (st) h Q ↔ PW B X 146 394 [some (.ref a), v1, v2, v3] (.ref a :: st) h Q := PW_step rfl rfl rfl rfl
theorem u_146_393n : PW B X 146 393 [some .null, v1, v2, v3] (st) h Q ↔ PW B X 146 394 [some .null, v1, v2, v3] (.null :: st) h Q := PW_step rfl rfl rfl rfl
theorem u_146_394 : PW B X 146 394 [v0, v1, v2, some (.int x)] (st) h Q ↔ PW B X 146 395 [v0, v1, v2, some (.int x)] (.int x :: st) h Q := PW_step rfl rfl rfl rfl
theorem u_146_395 : PW B X 146 395 lv (st) h Q ↔ PW B X 146 396 lv (.int 1 :: st) h Q := PW_step rfl rfl rfl rfl
theorem u_146_396 : PW B X 146 396 lv (.int y :: .int x :: st) h Q ↔ PW B X 146 397 lv (.int (x + y) :: st) h Q := PW_step rfl rfl rfl rfl
theorem u_146_397 (hx : pm_ix x X.2.1 = true) : PW B X 146 397 lv (.int x :: .ref X.1 :: st) h Q ↔ PW B X 146 398 lv (.int (X.2.2 x.toNatClampNeg) :: st) h Q := PW_sld rfl rfl hx
theorem u_146_398 : PW B X 146 398 [some (.ref a), v1, v2, v3] (st) h Q ↔ PW B X 146 399 [some (.ref a), v1, v2, v3] (.ref a :: st) h Q := PW_step rfl rfl rfl rfl
theorem u_146_398n : PW B X 146 398 [some .null, v1, v2, v3] (st) h Q ↔ PW B X 146 399 [some .null, v1, v2, v3] (.null :: st) h Q := PW_step rfl rfl rfl rfl
theorem u_146_399 : PW B X 146 399 [v0, v1, v2, some (.int x)] (st) h Q ↔ PW B X 146 400 [v0, v1, v2, some (.int x)] (.int x :: st) h Q := PW_step rfl rfl rfl rfl
theorem u_146_400 : PW B X 146 400 lv (st) h Q ↔ PW B X 146 401 lv (.int 2 :: st) h Q := PW_step rfl rfl rfl rfl
theorem u_146_401 : PW B X 146 401 lv (.int y :: .int x :: st) h Q ↔ PW B X 146 402 lv (.int (x + y) :: st) h Q := PW_step rfl rfl rfl rfl
theorem u_146_402 (hx : pm_ix x X.2.1 = true) : PW B X 146 402 lv (.int x :: .ref X.1 :: st) h Q ↔ PW B X 146 403 lv (.int (X.2.2 x.toNatClampNeg) :: st) h Q := PW_sld rfl rfl hx
theorem u_146_403 : PW B X 146 403 [some (.ref a), v1, v2, v3] (st) h Q ↔ PW B X 146 404 [some (.ref a), v1, v2, v3] (.ref a :: st) h Q := PW_step rfl rfl rfl rfl
theorem u_146_403n : PW B X 146 403 [some .null, v1, v2, v3] (st) h Q ↔ PW B X 146 404 [some .null, v1, v2, v3] (.null :: st) h Q := PW_step rfl rfl rfl rfl
theorem u_146_404 : PW B X 146 404 [v0, v1, v2, some (.int x)] (st) h Q ↔ PW B X 146 405 [v0, v1, v2, some (.int x)] (.int x :: st) h Q := PW_step rfl rfl rfl rfl
theorem u_146_405 : PW B X 146 405 lv (st) h Q ↔ PW B X 146 406 lv (.int 3 :: st) h Q := PW_step rfl rfl rfl rfl
theorem u_146_406 : PW B X 146 406 lv (.int y :: .int x :: st) h Q ↔ PW B X 146 407 lv (.int (x + y) :: st) h Q := PW_step rfl rfl rfl rfl
theorem u_146_407 (hx : pm_ix x X.2.1 = true) : PW B X 146 407 lv (.int x :: .ref X.1 :: st) h Q ↔ PW B X 146 408 lv (.int (X.2.2 x.toNatClampNeg) :: st) h Q := PW_sld rfl rfl hx
theorem u_146_408 : PW B X 146 408 lv (.int q2 :: .int q1 :: .int q0 :: .ref a :: st) h Q ↔ (pm_w st ≤ 8 ∧ pm_io B h a 10 = true ∧ PW B X 125 0 [some (.ref a), some (.int q0), some (.int q1), some (.int q2)] [] h (fun r h' => PW B X 146 411 lv (r.toList ++ st) h' Q)) := PW_cv (y := 125) (as := [.int q0, .int q1, .int q2]) (rest := st) rfl rfl rfl rfl rfl ⟨Nat.le_of_ble_eq_true rfl, Nat.le_of_ble_eq_true rfl, Nat.le_of_ble_eq_true rfl⟩
theorem u_146_411 : PW B X 146 411 lv (.int y :: .int x :: st) h Q ↔ (if x = y then PW B X 146 823 lv (st) h Q else PW B X 146 414 lv (st) h Q) := PW_icmp rfl rfl pm_c_eq
theorem u_146_414 : PW B X 146 414 lv (st) h Q ↔ PW B X 146 415 lv (.int 0 :: st) h Q := PW_step rfl rfl rfl rfl
theorem u_146_415 (hx : narrow .boolean (.int x) = .int x) : PW B X 146 415 lv ([.int x]) h Q ↔ Q (some (.int x)) h := PW_bret rfl rfl (by simp) hx
theorem u_146_415_0 : PW B X 146 415 lv ([.int 0]) h Q ↔ Q (some (.int 0)) h := u_146_415 rfl
theorem u_146_415_1 : PW B X 146 415 lv ([.int 1]) h Q ↔ Q (some (.int 1)) h := u_146_415 rfl
theorem u_146_416 : PW B X 146 416 [v0, some (.ref a), v2, v3] (st) h Q ↔ PW B X 146 417 [v0, some (.ref a), v2, v3] (.ref a :: st) h Q := PW_step rfl rfl rfl rfl
theorem u_146_416n : PW B X 146 416 [v0, some .null, v2, v3] (st) h Q ↔ PW B X 146 417 [v0, some .null, v2, v3] (.null :: st) h Q := PW_step rfl rfl rfl rfl
theorem u_146_417 : PW B X 146 417 lv (.ref a :: st) h Q ↔ (pm_w st ≤ 8 ∧ pm_io B h a 0 = true ∧ PW B X 64 0 [some (.ref a)] [] h (fun r h' => PW B X 146 420 lv (r.toList ++ st) h' Q)) := PW_cv (y := 64) (as := []) (rest := st) rfl rfl rfl rfl rfl ⟨Nat.le_of_ble_eq_true rfl, Nat.le_of_ble_eq_true rfl, Nat.le_of_ble_eq_true rfl⟩
theorem u_146_420 : PW B X 146 420 [v0, v1, some (.ref a), v3] (st) h Q ↔ PW B X 146 421 [v0, v1, some (.ref a), v3] (.ref a :: st) h Q := PW_step rfl rfl rfl rfl
theorem u_146_420n : PW B X 146 420 [v0, v1, some .null, v3] (st) h Q ↔ PW B X 146 421 [v0, v1, some .null, v3] (.null :: st) h Q := PW_step rfl rfl rfl rfl
theorem u_146_421 : PW B X 146 421 lv (.ref a :: st) h Q ↔ (pm_w st ≤ 8 ∧ pm_io B h a 10 = true ∧ PW B X 130 0 [some (.ref a)] [] h (fun r h' => PW B X 146 424 lv (r.toList ++ st) h' Q)) := PW_cv (y := 130) (as := []) (rest := st) rfl rfl rfl rfl rfl ⟨Nat.le_of_ble_eq_true rfl, Nat.le_of_ble_eq_true rfl, Nat.le_of_ble_eq_true rfl⟩
theorem u_146_424 : PW B X 146 424 lv (.int y :: .int x :: st) h Q ↔ (if x = y then PW B X 146 823 lv (st) h Q else PW B X 146 427 lv (st) h Q) := PW_icmp rfl rfl pm_c_eq
theorem u_146_427 : PW B X 146 427 lv (st) h Q ↔ PW B X 146 428 lv (.int 0 :: st) h Q := PW_step rfl rfl rfl rfl
theorem u_146_428 (hx : narrow .boolean (.int x) = .int x) : PW B X 146 428 lv ([.int x]) h Q ↔ Q (some (.int x)) h := PW_bret rfl rfl (by simp) hx
theorem u_146_428_0 : PW B X 146 428 lv ([.int 0]) h Q ↔ Q (some (.int 0)) h := u_146_428 rfl
theorem u_146_428_1 : PW B X 146 428 lv ([.int 1]) h Q ↔ Q (some (.int 1)) h := u_146_428 rfl
theorem u_146_429 : PW B X 146 429 [v0, some (.ref a), v2, v3] (st) h Q ↔ PW B X 146 430 [v0, some (.ref a), v2, v3] (.ref a :: st) h Q := PW_step rfl rfl rfl rfl
theorem u_146_429n : PW B X 146 429 [v0, some .null, v2, v3] (st) h Q ↔ PW B X 146 430 [v0, some .null, v2, v3] (.null :: st) h Q := PW_step rfl rfl rfl rfl
theorem u_146_430 : PW B X 146 430 [some (.ref a), v1, v2, v3] (st) h Q ↔ PW B X 146 431 [some (.ref a), v1, v2, v3] (.ref a :: st) h Q := PW_step rfl rfl rfl rfl
theorem u_146_430n : PW B X 146 430 [some .null, v1, v2, v3] (st) h Q ↔ PW B X 146 431 [some .null, v1, v2, v3] (.null :: st) h Q := PW_step rfl rfl rfl rfl
theorem u_146_431 : PW B X 146 431 [v0, v1, v2, some (.int x)] (st) h Q ↔ PW B X 146 432 [v0, v1, v2, some (.int x)] (.int x :: st) h Q := PW_step rfl rfl rfl rfl
theorem u_146_432 : PW B X 146 432 lv (st) h Q ↔ PW B X 146 433 lv (.int 1 :: st) h Q := PW_step rfl rfl rfl rfl
theorem u_146_433 : PW B X 146 433 lv (.int y :: .int x :: st) h Q ↔ PW B X 146 434 lv (.int (x + y) :: st) h Q := PW_step rfl rfl rfl rfl
theorem u_146_434 (hx : pm_ix x X.2.1 = true) : PW B X 146 434 lv (.int x :: .ref X.1 :: st) h Q ↔ PW B X 146 435 lv (.int (X.2.2 x.toNatClampNeg) :: st) h Q := PW_sld rfl rfl hx
theorem u_146_435 : PW B X 146 435 lv (.int x :: st) h Q ↔ (if x = 0 then PW B X 146 442 lv (st) h Q else PW B X 146 438 lv (st) h Q) := PW_if rfl rfl pm_c_eq
theorem u_146_438 : PW B X 146 438 lv (st) h Q ↔ PW B X 146 439 lv (.int 1 :: st) h Q := PW_step rfl rfl rfl rfl
theorem u_146_439 : PW B X 146 439 lv (st) h Q ↔ PW B X 146 443 lv (st) h Q := PW_step rfl rfl rfl rfl
theorem u_146_442 : PW B X 146 442 lv (st) h Q ↔ PW B X 146 443 lv (.int 0 :: st) h Q := PW_step rfl rfl rfl rfl
theorem u_146_443 : PW B X 146 443 lv (.int q0 :: .ref a :: st) h Q ↔ (pm_w st ≤ 8 ∧ pm_io B h a 0 = true ∧ PW B X 65 0 [some (.ref a), some (.int q0), none] [] h (fun r h' => PW B X 146 446 lv (r.toList ++ st) h' Q)) := PW_cv (y := 65) (as := [.int q0]) (rest := st) rfl rfl rfl rfl rfl ⟨Nat.le_of_ble_eq_true rfl, Nat.le_of_ble_eq_true rfl, Nat.le_of_ble_eq_true rfl⟩
theorem u_146_446 : PW B X 146 446 [v0, v1, some (.ref a), v3] (st) h Q ↔ PW B X 146 447 [v0, v1, some (.ref a), v3] (.ref a :: st) h Q := PW_step rfl rfl rfl rfl
theorem u_146_446n : PW B X 146 446 [v0, v1, some .null, v3] (st) h Q ↔ PW B X 146 447 [v0, v1, some .null, v3] (.null :: st) h Q := PW_step rfl rfl rfl rfl
theorem u_146_447 : PW B X 146 447 [some (.ref a), v1, v2, v3] (st) h Q ↔ PW B X 146 448 [some (.ref a), v1, v2, v3] (.ref a :: st) h Q := PW_step rfl rfl rfl rfl
theorem u_146_447n : PW B X 146 447 [some .null, v1, v2, v3] (st) h Q ↔ PW B X 146 448 [some .null, v1, v2, v3] (.null :: st) h Q := PW_step rfl rfl rfl rfl
theorem u_146_448 : PW B X 146 448 [v0, v1, v2, some (.int x)] (st) h Q ↔ PW B X 146 449 [v0, v1, v2, some (.int x)] (.int x :: st) h Q := PW_step rfl rfl rfl rfl
theorem u_146_449 : PW B X 146 449 lv (st) h Q ↔ PW B X 146 450 lv (.int 1 :: st) h Q := PW_step rfl rfl rfl rfl
theorem u_146_450 : PW B X 146 450 lv (.int y :: .int x :: st) h Q ↔ PW B X 146 451 lv (.int (x + y) :: st) h Q := PW_step rfl rfl rfl rfl
theorem u_146_451 (hx : pm_ix x X.2.1 = true) : PW B X 146 451 lv (.int x :: .ref X.1 :: st) h Q ↔ PW B X 146 452 lv (.int (X.2.2 x.toNatClampNeg) :: st) h Q := PW_sld rfl rfl hx
theorem u_146_452 : PW B X 146 452 lv (.int x :: st) h Q ↔ (if x = 0 then PW B X 146 459 lv (st) h Q else PW B X 146 455 lv (st) h Q) := PW_if rfl rfl pm_c_eq
theorem u_146_455 : PW B X 146 455 lv (st) h Q ↔ PW B X 146 456 lv (.int 1 :: st) h Q := PW_step rfl rfl rfl rfl
theorem u_146_456 : PW B X 146 456 lv (st) h Q ↔ PW B X 146 460 lv (st) h Q := PW_step rfl rfl rfl rfl
theorem u_146_459 : PW B X 146 459 lv (st) h Q ↔ PW B X 146 460 lv (.int 0 :: st) h Q := PW_step rfl rfl rfl rfl
theorem u_146_460 : PW B X 146 460 lv (.int q0 :: .ref a :: st) h Q ↔ (pm_w st ≤ 8 ∧ pm_io B h a 10 = true ∧ PW B X 126 0 [some (.ref a), some (.int q0), none, none, none, none, none, none, none, none, none, none] [] h (fun r h' => PW B X 146 463 lv (r.toList ++ st) h' Q)) := PW_cv (y := 126) (as := [.int q0]) (rest := st) rfl rfl rfl rfl rfl ⟨Nat.le_of_ble_eq_true rfl, Nat.le_of_ble_eq_true rfl, Nat.le_of_ble_eq_true rfl⟩
theorem u_146_463 : PW B X 146 463 lv (.int y :: .int x :: st) h Q ↔ (if x = y then PW B X 146 823 lv (st) h Q else PW B X 146 466 lv (st) h Q) := PW_icmp rfl rfl pm_c_eq
theorem u_146_466 : PW B X 146 466 lv (st) h Q ↔ PW B X 146 467 lv (.int 0 :: st) h Q := PW_step rfl rfl rfl rfl
theorem u_146_467 (hx : narrow .boolean (.int x) = .int x) : PW B X 146 467 lv ([.int x]) h Q ↔ Q (some (.int x)) h := PW_bret rfl rfl (by simp) hx
theorem u_146_467_0 : PW B X 146 467 lv ([.int 0]) h Q ↔ Q (some (.int 0)) h := u_146_467 rfl
theorem u_146_467_1 : PW B X 146 467 lv ([.int 1]) h Q ↔ Q (some (.int 1)) h := u_146_467 rfl
theorem u_146_468 : PW B X 146 468 [v0, some (.ref a), v2, v3] (st) h Q ↔ PW B X 146 469 [v0, some (.ref a), v2, v3] (.ref a :: st) h Q := PW_step rfl rfl rfl rfl
theorem u_146_468n : PW B X 146 468 [v0, some .null, v2, v3] (st) h Q ↔ PW B X 146 469 [v0, some .null, v2, v3] (.null :: st) h Q := PW_step rfl rfl rfl rfl
theorem u_146_469 : PW B X 146 469 [some (.ref a), v1, v2, v3] (st) h Q ↔ PW B X 146 470 [some (.ref a), v1, v2, v3] (.ref a :: st) h Q := PW_step rfl rfl rfl rfl
theorem u_146_469n : PW B X 146 469 [some .null, v1, v2, v3] (st) h Q ↔ PW B X 146 470 [some .null, v1, v2, v3] (.null :: st) h Q := PW_step rfl rfl rfl rfl
theorem u_146_470 : PW B X 146 470 [v0, v1, v2, some (.int x)] (st) h Q ↔ PW B X 146 471 [v0, v1, v2, some (.int x)] (.int x :: st) h Q := PW_step rfl rfl rfl rfl
theorem u_146_471 : PW B X 146 471 lv (st) h Q ↔ PW B X 146 472 lv (.int 1 :: st) h Q := PW_step rfl rfl rfl rfl
theorem u_146_472 : PW B X 146 472 lv (.int y :: .int x :: st) h Q ↔ PW B X 146 473 lv (.int (x + y) :: st) h Q := PW_step rfl rfl rfl rfl
theorem u_146_473 (hx : pm_ix x X.2.1 = true) : PW B X 146 473 lv (.int x :: .ref X.1 :: st) h Q ↔ PW B X 146 474 lv (.int (X.2.2 x.toNatClampNeg) :: st) h Q := PW_sld rfl rfl hx
theorem u_146_474 : PW B X 146 474 [some (.ref a), v1, v2, v3] (st) h Q ↔ PW B X 146 475 [some (.ref a), v1, v2, v3] (.ref a :: st) h Q := PW_step rfl rfl rfl rfl
theorem u_146_474n : PW B X 146 474 [some .null, v1, v2, v3] (st) h Q ↔ PW B X 146 475 [some .null, v1, v2, v3] (.null :: st) h Q := PW_step rfl rfl rfl rfl
theorem u_146_475 : PW B X 146 475 [v0, v1, v2, some (.int x)] (st) h Q ↔ PW B X 146 476 [v0, v1, v2, some (.int x)] (.int x :: st) h Q := PW_step rfl rfl rfl rfl
theorem u_146_476 : PW B X 146 476 lv (st) h Q ↔ PW B X 146 477 lv (.int 2 :: st) h Q := PW_step rfl rfl rfl rfl
theorem u_146_477 : PW B X 146 477 lv (.int y :: .int x :: st) h Q ↔ PW B X 146 478 lv (.int (x + y) :: st) h Q := PW_step rfl rfl rfl rfl
theorem u_146_478 (hx : pm_ix x X.2.1 = true) : PW B X 146 478 lv (.int x :: .ref X.1 :: st) h Q ↔ PW B X 146 479 lv (.int (X.2.2 x.toNatClampNeg) :: st) h Q := PW_sld rfl rfl hx
theorem u_146_479 : PW B X 146 479 lv (.int q1 :: .int q0 :: .ref a :: st) h Q ↔ (pm_w st ≤ 8 ∧ pm_io B h a 0 = true ∧ PW B X 70 0 [some (.ref a), some (.int q0), some (.int q1), none, none, none, none, none, none] [] h (fun r h' => PW B X 146 482 lv (r.toList ++ st) h' Q)) := PW_cv (y := 70) (as := [.int q0, .int q1]) (rest := st) rfl rfl rfl rfl rfl ⟨Nat.le_of_ble_eq_true rfl, Nat.le_of_ble_eq_true rfl, Nat.le_of_ble_eq_true rfl⟩
theorem u_146_482 : PW B X 146 482 [v0, v1, some (.ref a), v3] (st) h Q ↔ PW B X 146 483 [v0, v1, some (.ref a), v3] (.ref a :: st) h Q := PW_step rfl rfl rfl rfl
theorem u_146_482n : PW B X 146 482 [v0, v1, some .null, v3] (st) h Q ↔ PW B X 146 483 [v0, v1, some .null, v3] (.null :: st) h Q := PW_step rfl rfl rfl rfl
theorem u_146_483 : PW B X 146 483 [some (.ref a), v1, v2, v3] (st) h Q ↔ PW B X 146 484 [some (.ref a), v1, v2, v3] (.ref a :: st) h Q := PW_step rfl rfl rfl rfl
theorem u_146_483n : PW B X 146 483 [some .null, v1, v2, v3] (st) h Q ↔ PW B X 146 484 [some .null, v1, v2, v3] (.null :: st) h Q := PW_step rfl rfl rfl rfl
theorem u_146_484 : PW B X 146 484 [v0, v1, v2, some (.int x)] (st) h Q ↔ PW B X 146 485 [v0, v1, v2, some (.int x)] (.int x :: st) h Q := PW_step rfl rfl rfl rfl
theorem u_146_485 : PW B X 146 485 lv (st) h Q ↔ PW B X 146 486 lv (.int 1 :: st) h Q := PW_step rfl rfl rfl rfl
theorem u_146_486 : PW B X 146 486 lv (.int y :: .int x :: st) h Q ↔ PW B X 146 487 lv (.int (x + y) :: st) h Q := PW_step rfl rfl rfl rfl
theorem u_146_487 (hx : pm_ix x X.2.1 = true) : PW B X 146 487 lv (.int x :: .ref X.1 :: st) h Q ↔ PW B X 146 488 lv (.int (X.2.2 x.toNatClampNeg) :: st) h Q := PW_sld rfl rfl hx
theorem u_146_488 : PW B X 146 488 [some (.ref a), v1, v2, v3] (st) h Q ↔ PW B X 146 489 [some (.ref a), v1, v2, v3] (.ref a :: st) h Q := PW_step rfl rfl rfl rfl
theorem u_146_488n : PW B X 146 488 [some .null, v1, v2, v3] (st) h Q ↔ PW B X 146 489 [some .null, v1, v2, v3] (.null :: st) h Q := PW_step rfl rfl rfl rfl
theorem u_146_489 : PW B X 146 489 [v0, v1, v2, some (.int x)] (st) h Q ↔ PW B X 146 490 [v0, v1, v2, some (.int x)] (.int x :: st) h Q := PW_step rfl rfl rfl rfl
theorem u_146_490 : PW B X 146 490 lv (st) h Q ↔ PW B X 146 491 lv (.int 2 :: st) h Q := PW_step rfl rfl rfl rfl
theorem u_146_491 : PW B X 146 491 lv (.int y :: .int x :: st) h Q ↔ PW B X 146 492 lv (.int (x + y) :: st) h Q := PW_step rfl rfl rfl rfl
theorem u_146_492 (hx : pm_ix x X.2.1 = true) : PW B X 146 492 lv (.int x :: .ref X.1 :: st) h Q ↔ PW B X 146 493 lv (.int (X.2.2 x.toNatClampNeg) :: st) h Q := PW_sld rfl rfl hx
theorem u_146_493 : PW B X 146 493 lv (.int q1 :: .int q0 :: .ref a :: st) h Q ↔ (pm_w st ≤ 8 ∧ pm_io B h a 10 = true ∧ PW B X 131 0 [some (.ref a), some (.int q0), some (.int q1), none, none, none, none] [] h (fun r h' => PW B X 146 496 lv (r.toList ++ st) h' Q)) := PW_cv (y := 131) (as := [.int q0, .int q1]) (rest := st) rfl rfl rfl rfl rfl ⟨Nat.le_of_ble_eq_true rfl, Nat.le_of_ble_eq_true rfl, Nat.le_of_ble_eq_true rfl⟩
theorem u_146_496 : PW B X 146 496 lv (.int y :: .int x :: st) h Q ↔ (if x = y then PW B X 146 823 lv (st) h Q else PW B X 146 499 lv (st) h Q) := PW_icmp rfl rfl pm_c_eq
theorem u_146_499 : PW B X 146 499 lv (st) h Q ↔ PW B X 146 500 lv (.int 0 :: st) h Q := PW_step rfl rfl rfl rfl
theorem u_146_500 (hx : narrow .boolean (.int x) = .int x) : PW B X 146 500 lv ([.int x]) h Q ↔ Q (some (.int x)) h := PW_bret rfl rfl (by simp) hx
theorem u_146_500_0 : PW B X 146 500 lv ([.int 0]) h Q ↔ Q (some (.int 0)) h := u_146_500 rfl
theorem u_146_500_1 : PW B X 146 500 lv ([.int 1]) h Q ↔ Q (some (.int 1)) h := u_146_500 rfl
theorem u_146_501 : PW B X 146 501 [v0, some (.ref a), v2, v3] (st) h Q ↔ PW B X 146 502 [v0, some (.ref a), v2, v3] (.ref a :: st) h Q := PW_step rfl rfl rfl rfl
theorem u_146_501n : PW B X 146 501 [v0, some .null, v2, v3] (st) h Q ↔ PW B X 146 502 [v0, some .null, v2, v3] (.null :: st) h Q := PW_step rfl rfl rfl rfl
theorem u_146_502 : PW B X 146 502 [some (.ref a), v1, v2, v3] (st) h Q ↔ PW B X 146 503 [some (.ref a), v1, v2, v3] (.ref a :: st) h Q := PW_step rfl rfl rfl rfl
theorem u_146_502n : PW B X 146 502 [some .null, v1, v2, v3] (st) h Q ↔ PW B X 146 503 [some .null, v1, v2, v3] (.null :: st) h Q := PW_step rfl rfl rfl rfl
theorem u_146_503 : PW B X 146 503 [v0, v1, v2, some (.int x)] (st) h Q ↔ PW B X 146 504 [v0, v1, v2, some (.int x)] (.int x :: st) h Q := PW_step rfl rfl rfl rfl
theorem u_146_504 : PW B X 146 504 lv (st) h Q ↔ PW B X 146 505 lv (.int 1 :: st) h Q := PW_step rfl rfl rfl rfl
theorem u_146_505 : PW B X 146 505 lv (.int y :: .int x :: st) h Q ↔ PW B X 146 506 lv (.int (x + y) :: st) h Q := PW_step rfl rfl rfl rfl
theorem u_146_506 (hx : pm_ix x X.2.1 = true) : PW B X 146 506 lv (.int x :: .ref X.1 :: st) h Q ↔ PW B X 146 507 lv (.int (X.2.2 x.toNatClampNeg) :: st) h Q := PW_sld rfl rfl hx
theorem u_146_507 : PW B X 146 507 [some (.ref a), v1, v2, v3] (st) h Q ↔ PW B X 146 508 [some (.ref a), v1, v2, v3] (.ref a :: st) h Q := PW_step rfl rfl rfl rfl
theorem u_146_507n : PW B X 146 507 [some .null, v1, v2, v3] (st) h Q ↔ PW B X 146 508 [some .null, v1, v2, v3] (.null :: st) h Q := PW_step rfl rfl rfl rfl
theorem u_146_508 : PW B X 146 508 [v0, v1, v2, some (.int x)] (st) h Q ↔ PW B X 146 509 [v0, v1, v2, some (.int x)] (.int x :: st) h Q := PW_step rfl rfl rfl rfl
theorem u_146_509 : PW B X 146 509 lv (st) h Q ↔ PW B X 146 510 lv (.int 2 :: st) h Q := PW_step rfl rfl rfl rfl
theorem u_146_510 : PW B X 146 510 lv (.int y :: .int x :: st) h Q ↔ PW B X 146 511 lv (.int (x + y) :: st) h Q := PW_step rfl rfl rfl rfl
theorem u_146_511 (hx : pm_ix x X.2.1 = true) : PW B X 146 511 lv (.int x :: .ref X.1 :: st) h Q ↔ PW B X 146 512 lv (.int (X.2.2 x.toNatClampNeg) :: st) h Q := PW_sld rfl rfl hx
theorem u_146_512 : PW B X 146 512 [some (.ref a), v1, v2, v3] (st) h Q ↔ PW B X 146 513 [some (.ref a), v1, v2, v3] (.ref a :: st) h Q := PW_step rfl rfl rfl rfl
theorem u_146_512n : PW B X 146 512 [some .null, v1, v2, v3] (st) h Q ↔ PW B X 146 513 [some .null, v1, v2, v3] (.null :: st) h Q := PW_step rfl rfl rfl rfl
theorem u_146_513 : PW B X 146 513 [v0, v1, v2, some (.int x)] (st) h Q ↔ PW B X 146 514 [v0, v1, v2, some (.int x)] (.int x :: st) h Q := PW_step rfl rfl rfl rfl
theorem u_146_514 : PW B X 146 514 lv (st) h Q ↔ PW B X 146 515 lv (.int 3 :: st) h Q := PW_step rfl rfl rfl rfl
theorem u_146_515 : PW B X 146 515 lv (.int y :: .int x :: st) h Q ↔ PW B X 146 516 lv (.int (x + y) :: st) h Q := PW_step rfl rfl rfl rfl
theorem u_146_516 (hx : pm_ix x X.2.1 = true) : PW B X 146 516 lv (.int x :: .ref X.1 :: st) h Q ↔ PW B X 146 517 lv (.int (X.2.2 x.toNatClampNeg) :: st) h Q := PW_sld rfl rfl hx
theorem u_146_517 : PW B X 146 517 [some (.ref a), v1, v2, v3] (st) h Q ↔ PW B X 146 518 [some (.ref a), v1, v2, v3] (.ref a :: st) h Q := PW_step rfl rfl rfl rfl
theorem u_146_517n : PW B X 146 517 [some .null, v1, v2, v3] (st) h Q ↔ PW B X 146 518 [some .null, v1, v2, v3] (.null :: st) h Q := PW_step rfl rfl rfl rfl
theorem u_146_518 : PW B X 146 518 [v0, v1, v2, some (.int x)] (st) h Q ↔ PW B X 146 519 [v0, v1, v2, some (.int x)] (.int x :: st) h Q := PW_step rfl rfl rfl rfl
theorem u_146_519 : PW B X 146 519 lv (st) h Q ↔ PW B X 146 520 lv (.int 4 :: st) h Q := PW_step rfl rfl rfl rfl
theorem u_146_520 : PW B X 146 520 lv (.int y :: .int x :: st) h Q ↔ PW B X 146 521 lv (.int (x + y) :: st) h Q := PW_step rfl rfl rfl rfl
theorem u_146_521 (hx : pm_ix x X.2.1 = true) : PW B X 146 521 lv (.int x :: .ref X.1 :: st) h Q ↔ PW B X 146 522 lv (.int (X.2.2 x.toNatClampNeg) :: st) h Q := PW_sld rfl rfl hx
theorem u_146_522 : PW B X 146 522 lv (.int q3 :: .int q2 :: .int q1 :: .int q0 :: .ref a :: st) h Q ↔ (pm_w st ≤ 8 ∧ pm_io B h a 0 = true ∧ PW B X 72 0 [some (.ref a), some (.int q0), some (.int q1), some (.int q2), some (.int q3), none] [] h (fun r h' => PW B X 146 525 lv (r.toList ++ st) h' Q)) := PW_cv (y := 72) (as := [.int q0, .int q1, .int q2, .int q3]) (rest := st) rfl rfl rfl rfl rfl ⟨Nat.le_of_ble_eq_true rfl, Nat.le_of_ble_eq_true rfl, Nat.le_of_ble_eq_true rfl⟩
theorem u_146_525 : PW B X 146 525 [v0, v1, some (.ref a), v3] (st) h Q ↔ PW B X 146 526 [v0, v1, some (.ref a), v3] (.ref a :: st) h Q := PW_step rfl rfl rfl rfl
theorem u_146_525n : PW B X 146 525 [v0, v1, some .null, v3] (st) h Q ↔ PW B X 146 526 [v0, v1, some .null, v3] (.null :: st) h Q := PW_step rfl rfl rfl rfl
theorem u_146_526 : PW B X 146 526 [some (.ref a), v1, v2, v3] (st) h Q ↔ PW B X 146 527 [some (.ref a), v1, v2, v3] (.ref a :: st) h Q := PW_step rfl rfl rfl rfl
theorem u_146_526n : PW B X 146 526 [some .null, v1, v2, v3] (st) h Q ↔ PW B X 146 527 [some .null, v1, v2, v3] (.null :: st) h Q := PW_step rfl rfl rfl rfl
theorem u_146_527 : PW B X 146 527 [v0, v1, v2, some (.int x)] (st) h Q ↔ PW B X 146 528 [v0, v1, v2, some (.int x)] (.int x :: st) h Q := PW_step rfl rfl rfl rfl
theorem u_146_528 : PW B X 146 528 lv (st) h Q ↔ PW B X 146 529 lv (.int 1 :: st) h Q := PW_step rfl rfl rfl rfl
theorem u_146_529 : PW B X 146 529 lv (.int y :: .int x :: st) h Q ↔ PW B X 146 530 lv (.int (x + y) :: st) h Q := PW_step rfl rfl rfl rfl
theorem u_146_530 (hx : pm_ix x X.2.1 = true) : PW B X 146 530 lv (.int x :: .ref X.1 :: st) h Q ↔ PW B X 146 531 lv (.int (X.2.2 x.toNatClampNeg) :: st) h Q := PW_sld rfl rfl hx
theorem u_146_531 : PW B X 146 531 [some (.ref a), v1, v2, v3] (st) h Q ↔ PW B X 146 532 [some (.ref a), v1, v2, v3] (.ref a :: st) h Q := PW_step rfl rfl rfl rfl
theorem u_146_531n : PW B X 146 531 [some .null, v1, v2, v3] (st) h Q ↔ PW B X 146 532 [some .null, v1, v2, v3] (.null :: st) h Q := PW_step rfl rfl rfl rfl
theorem u_146_532 : PW B X 146 532 [v0, v1, v2, some (.int x)] (st) h Q ↔ PW B X 146 533 [v0, v1, v2, some (.int x)] (.int x :: st) h Q := PW_step rfl rfl rfl rfl
theorem u_146_533 : PW B X 146 533 lv (st) h Q ↔ PW B X 146 534 lv (.int 2 :: st) h Q := PW_step rfl rfl rfl rfl
theorem u_146_534 : PW B X 146 534 lv (.int y :: .int x :: st) h Q ↔ PW B X 146 535 lv (.int (x + y) :: st) h Q := PW_step rfl rfl rfl rfl
theorem u_146_535 (hx : pm_ix x X.2.1 = true) : PW B X 146 535 lv (.int x :: .ref X.1 :: st) h Q ↔ PW B X 146 536 lv (.int (X.2.2 x.toNatClampNeg) :: st) h Q := PW_sld rfl rfl hx
theorem u_146_536 : PW B X 146 536 [some (.ref a), v1, v2, v3] (st) h Q ↔ PW B X 146 537 [some (.ref a), v1, v2, v3] (.ref a :: st) h Q := PW_step rfl rfl rfl rfl
theorem u_146_536n : PW B X 146 536 [some .null, v1, v2, v3] (st) h Q ↔ PW B X 146 537 [some .null, v1, v2, v3] (.null :: st) h Q := PW_step rfl rfl rfl rfl
theorem u_146_537 : PW B X 146 537 [v0, v1, v2, some (.int x)] (st) h Q ↔ PW B X 146 538 [v0, v1, v2, some (.int x)] (.int x :: st) h Q := PW_step rfl rfl rfl rfl
theorem u_146_538 : PW B X 146 538 lv (st) h Q ↔ PW B X 146 539 lv (.int 3 :: st) h Q := PW_step rfl rfl rfl rfl
theorem u_146_539 : PW B X 146 539 lv (.int y :: .int x :: st) h Q ↔ PW B X 146 540 lv (.int (x + y) :: st) h Q := PW_step rfl rfl rfl rfl
theorem u_146_540 (hx : pm_ix x X.2.1 = true) : PW B X 146 540 lv (.int x :: .ref X.1 :: st) h Q ↔ PW B X 146 541 lv (.int (X.2.2 x.toNatClampNeg) :: st) h Q := PW_sld rfl rfl hx
theorem u_146_541 : PW B X 146 541 [some (.ref a), v1, v2, v3] (st) h Q ↔ PW B X 146 542 [some (.ref a), v1, v2, v3] (.ref a :: st) h Q := PW_step rfl rfl rfl rfl
theorem u_146_541n : PW B X 146 541 [some .null, v1, v2, v3] (st) h Q ↔ PW B X 146 542 [some .null, v1, v2, v3] (.null :: st) h Q := PW_step rfl rfl rfl rfl
theorem u_146_542 : PW B X 146 542 [v0, v1, v2, some (.int x)] (st) h Q ↔ PW B X 146 543 [v0, v1, v2, some (.int x)] (.int x :: st) h Q := PW_step rfl rfl rfl rfl
theorem u_146_543 : PW B X 146 543 lv (st) h Q ↔ PW B X 146 544 lv (.int 4 :: st) h Q := PW_step rfl rfl rfl rfl
theorem u_146_544 : PW B X 146 544 lv (.int y :: .int x :: st) h Q ↔ PW B X 146 545 lv (.int (x + y) :: st) h Q := PW_step rfl rfl rfl rfl
theorem u_146_545 (hx : pm_ix x X.2.1 = true) : PW B X 146 545 lv (.int x :: .ref X.1 :: st) h Q ↔ PW B X 146 546 lv (.int (X.2.2 x.toNatClampNeg) :: st) h Q := PW_sld rfl rfl hx
theorem u_146_546 : PW B X 146 546 lv (.int q3 :: .int q2 :: .int q1 :: .int q0 :: .ref a :: st) h Q ↔ (pm_w st ≤ 8 ∧ pm_io B h a 10 = true ∧ PW B X 132 0 [some (.ref a), some (.int q0), some (.int q1), some (.int q2), some (.int q3)] [] h (fun r h' => PW B X 146 549 lv (r.toList ++ st) h' Q)) := PW_cv (y := 132) (as := [.int q0, .int q1, .int q2, .int q3]) (rest := st) rfl rfl rfl rfl rfl ⟨Nat.le_of_ble_eq_true rfl, Nat.le_of_ble_eq_true rfl, Nat.le_of_ble_eq_true rfl⟩
theorem u_146_549 : PW B X 146 549 lv (.int y :: .int x :: st) h Q ↔ (if x = y then PW B X 146 823 lv (st) h Q else PW B X 146 552 lv (st) h Q) := PW_icmp rfl rfl pm_c_eq
theorem u_146_552 : PW B X 146 552 lv (st) h Q ↔ PW B X 146 553 lv (.int 0 :: st) h Q := PW_step rfl rfl rfl rfl
theorem u_146_553 (hx : narrow .boolean (.int x) = .int x) : PW B X 146 553 lv ([.int x]) h Q ↔ Q (some (.int x)) h := PW_bret rfl rfl (by simp) hx
theorem u_146_553_0 : PW B X 146 553 lv ([.int 0]) h Q ↔ Q (some (.int 0)) h := u_146_553 rfl
theorem u_146_553_1 : PW B X 146 553 lv ([.int 1]) h Q ↔ Q (some (.int 1)) h := u_146_553 rfl
theorem u_146_554 : PW B X 146 554 [v0, some (.ref a), v2, v3] (st) h Q ↔ PW B X 146 555 [v0, some (.ref a), v2, v3] (.ref a :: st) h Q := PW_step rfl rfl rfl rfl
theorem u_146_554n : PW B X 146 554 [v0, some .null, v2, v3] (st) h Q ↔ PW B X 146 555 [v0, some .null, v2, v3] (.null :: st) h Q := PW_step rfl rfl rfl rfl
theorem u_146_555 : PW B X 146 555 [some (.ref a), v1, v2, v3] (st) h Q ↔ PW B X 146 556 [some (.ref a), v1, v2, v3] (.ref a :: st) h Q := PW_step rfl rfl rfl rfl
theorem u_146_555n : PW B X 146 555 [some .null, v1, v2, v3] (st) h Q ↔ PW B X 146 556 [some .null, v1, v2, v3] (.null :: st) h Q := PW_step rfl rfl rfl rfl
theorem u_146_556 : PW B X 146 556 [v0, v1, v2, some (.int x)] (st) h Q ↔ PW B X 146 557 [v0, v1, v2, some (.int x)] (.int x :: st) h Q := PW_step rfl rfl rfl rfl
theorem u_146_557 : PW B X 146 557 lv (st) h Q ↔ PW B X 146 558 lv (.int 1 :: st) h Q := PW_step rfl rfl rfl rfl
theorem u_146_558 : PW B X 146 558 lv (.int y :: .int x :: st) h Q ↔ PW B X 146 559 lv (.int (x + y) :: st) h Q := PW_step rfl rfl rfl rfl
theorem u_146_559 (hx : pm_ix x X.2.1 = true) : PW B X 146 559 lv (.int x :: .ref X.1 :: st) h Q ↔ PW B X 146 560 lv (.int (X.2.2 x.toNatClampNeg) :: st) h Q := PW_sld rfl rfl hx
theorem u_146_560 : PW B X 146 560 [some (.ref a), v1, v2, v3] (st) h Q ↔ PW B X 146 561 [some (.ref a), v1, v2, v3] (.ref a :: st) h Q := PW_step rfl rfl rfl rfl
theorem u_146_560n : PW B X 146 560 [some .null, v1, v2, v3] (st) h Q ↔ PW B X 146 561 [some .null, v1, v2, v3] (.null :: st) h Q := PW_step rfl rfl rfl rfl
theorem u_146_561 : PW B X 146 561 [v0, v1, v2, some (.int x)] (st) h Q ↔ PW B X 146 562 [v0, v1, v2, some (.int x)] (.int x :: st) h Q := PW_step rfl rfl rfl rfl
theorem u_146_562 : PW B X 146 562 lv (st) h Q ↔ PW B X 146 563 lv (.int 2 :: st) h Q := PW_step rfl rfl rfl rfl
theorem u_146_563 : PW B X 146 563 lv (.int y :: .int x :: st) h Q ↔ PW B X 146 564 lv (.int (x + y) :: st) h Q := PW_step rfl rfl rfl rfl
theorem u_146_564 (hx : pm_ix x X.2.1 = true) : PW B X 146 564 lv (.int x :: .ref X.1 :: st) h Q ↔ PW B X 146 565 lv (.int (X.2.2 x.toNatClampNeg) :: st) h Q := PW_sld rfl rfl hx
theorem u_146_565 : PW B X 146 565 [some (.ref a), v1, v2, v3] (st) h Q ↔ PW B X 146 566 [some (.ref a), v1, v2, v3] (.ref a :: st) h Q := PW_step rfl rfl rfl rfl
theorem u_146_565n : PW B X 146 565 [some .null, v1, v2, v3] (st) h Q ↔ PW B X 146 566 [some .null, v1, v2, v3] (.null :: st) h Q := PW_step rfl rfl rfl rfl
theorem u_146_566 : PW B X 146 566 [v0, v1, v2, some (.int x)] (st) h Q ↔ PW B X 146 567 [v0, v1, v2, some (.int x)] (.int x :: st) h Q := PW_step rfl rfl rfl rfl
theorem u_146_567 : PW B X 146 567 lv (st) h Q ↔ PW B X 146 568 lv (.int 3 :: st) h Q := PW_step rfl rfl rfl rfl
theorem u_146_568 : PW B X 146 568 lv (.int y :: .int x :: st) h Q ↔ PW B X 146 569 lv (.int (x + y) :: st) h Q := PW_step rfl rfl rfl rfl
theorem u_146_569 (hx : pm_ix x X.2.1 = true) : PW B X 146 569 lv (.int x :: .ref X.1 :: st) h Q ↔ PW B X 146 570 lv (.int (X.2.2 x.toNatClampNeg) :: st) h Q := PW_sld rfl rfl hx
theorem u_146_570 : PW B X 146 570 lv (.int q2 :: .int q1 :: .int q0 :: .ref a :: st) h Q ↔ (pm_w st ≤ 8 ∧ pm_io B h a 0 = true ∧ PW B X 74 0 [some (.ref a), some (.int q0), some (.int q1), some (.int q2), none] [] h (fun r h' => PW B X 146 573 lv (r.toList ++ st) h' Q)) := PW_cv (y := 74) (as := [.int q0, .int q1, .int q2]) (rest := st) rfl rfl rfl rfl rfl ⟨Nat.le_of_ble_eq_true rfl, Nat.le_of_ble_eq_true rfl, Nat.le_of_ble_eq_true rfl⟩
theorem u_146_573 : PW B X 146 573 [v0, v1, some (.ref a), v3] (st) h Q ↔ PW B X 146 574 [v0, v1, some (.ref a), v3] (.ref a :: st) h Q := PW_step rfl rfl rfl rfl
theorem u_146_573n : PW B X 146 573 [v0, v1, some .null, v3] (st) h Q ↔ PW B X 146 574 [v0, v1, some .null, v3] (.null :: st) h Q := PW_step rfl rfl rfl rfl
theorem u_146_574 : PW B X 146 574 [some (.ref a), v1, v2, v3] (st) h Q ↔ PW B X 146 575 [some (.ref a), v1, v2, v3] (.ref a :: st) h Q := PW_step rfl rfl rfl rfl
theorem u_146_574n : PW B X 146 574 [some .null, v1, v2, v3] (st) h Q ↔ PW B X 146 575 [some .null, v1, v2, v3] (.null :: st) h Q := PW_step rfl rfl rfl rfl
theorem u_146_575 : PW B X 146 575 [v0, v1, v2, some (.int x)] (st) h Q ↔ PW B X 146 576 [v0, v1, v2, some (.int x)] (.int x :: st) h Q := PW_step rfl rfl rfl rfl
theorem u_146_576 : PW B X 146 576 lv (st) h Q ↔ PW B X 146 577 lv (.int 1 :: st) h Q := PW_step rfl rfl rfl rfl
theorem u_146_577 : PW B X 146 577 lv (.int y :: .int x :: st) h Q ↔ PW B X 146 578 lv (.int (x + y) :: st) h Q := PW_step rfl rfl rfl rfl
theorem u_146_578 (hx : pm_ix x X.2.1 = true) : PW B X 146 578 lv (.int x :: .ref X.1 :: st) h Q ↔ PW B X 146 579 lv (.int (X.2.2 x.toNatClampNeg) :: st) h Q := PW_sld rfl rfl hx
theorem u_146_579 : PW B X 146 579 [some (.ref a), v1, v2, v3] (st) h Q ↔ PW B X 146 580 [some (.ref a), v1, v2, v3] (.ref a :: st) h Q := PW_step rfl rfl rfl rfl
theorem u_146_579n : PW B X 146 579 [some .null, v1, v2, v3] (st) h Q ↔ PW B X 146 580 [some .null, v1, v2, v3] (.null :: st) h Q := PW_step rfl rfl rfl rfl
theorem u_146_580 : PW B X 146 580 [v0, v1, v2, some (.int x)] (st) h Q ↔ PW B X 146 581 [v0, v1, v2, some (.int x)] (.int x :: st) h Q := PW_step rfl rfl rfl rfl
theorem u_146_581 : PW B X 146 581 lv (st) h Q ↔ PW B X 146 582 lv (.int 2 :: st) h Q := PW_step rfl rfl rfl rfl
theorem u_146_582 : PW B X 146 582 lv (.int y :: .int x :: st) h Q ↔ PW B X 146 583 lv (.int (x + y) :: st) h Q := PW_step rfl rfl rfl rfl
theorem u_146_583 (hx : pm_ix x X.2.1 = true) : PW B X 146 583 lv (.int x :: .ref X.1 :: st) h Q ↔ PW B X 146 584 lv (.int (X.2.2 x.toNatClampNeg) :: st) h Q := PW_sld rfl rfl hx
theorem u_146_584 : PW B X 146 584 [some (.ref a), v1, v2, v3] (st) h Q ↔ PW B X 146 585 [some (.ref a), v1, v2, v3] (.ref a :: st) h Q := PW_step rfl rfl rfl rfl
theorem u_146_584n : PW B X 146 584 [some .null, v1, v2, v3] (st) h Q ↔ PW B X 146 585 [some .null, v1, v2, v3] (.null :: st) h Q := PW_step rfl rfl rfl rfl
theorem u_146_585 : PW B X 146 585 [v0, v1, v2, some (.int x)] (st) h Q ↔ PW B X 146 586 [v0, v1, v2, some (.int x)] (.int x :: st) h Q := PW_step rfl rfl rfl rfl
theorem u_146_586 : PW B X 146 586 lv (st) h Q ↔ PW B X 146 587 lv (.int 3 :: st) h Q := PW_step rfl rfl rfl rfl
theorem u_146_587 : PW B X 146 587 lv (.int y :: .int x :: st) h Q ↔ PW B X 146 588 lv (.int (x + y) :: st) h Q := PW_step rfl rfl rfl rfl
theorem u_146_588 (hx : pm_ix x X.2.1 = true) : PW B X 146 588 lv (.int x :: .ref X.1 :: st) h Q ↔ PW B X 146 589 lv (.int (X.2.2 x.toNatClampNeg) :: st) h Q := PW_sld rfl rfl hx
theorem u_146_589 : PW B X 146 589 lv (.int q2 :: .int q1 :: .int q0 :: .ref a :: st) h Q ↔ (pm_w st ≤ 8 ∧ pm_io B h a 10 = true ∧ PW B X 133 0 [some (.ref a), some (.int q0), some (.int q1), some (.int q2)] [] h (fun r h' => PW B X 146 592 lv (r.toList ++ st) h' Q)) := PW_cv (y := 133) (as := [.int q0, .int q1, .int q2]) (rest := st) rfl rfl rfl rfl rfl ⟨Nat.le_of_ble_eq_true rfl, Nat.le_of_ble_eq_true rfl, Nat.le_of_ble_eq_true rfl⟩
theorem u_146_592 : PW B X 146 592 lv (.long w :: .long z :: st) h Q ↔ PW B X 146 593 lv (.int (lg_cmp z w) :: st) h Q := PW_step rfl rfl rfl rfl
theorem u_146_593 : PW B X 146 593 lv (.int x :: st) h Q ↔ (if x = 0 then PW B X 146 823 lv (st) h Q else PW B X 146 596 lv (st) h Q) := PW_if rfl rfl pm_c_eq
theorem u_146_596 : PW B X 146 596 lv (st) h Q ↔ PW B X 146 597 lv (.int 0 :: st) h Q := PW_step rfl rfl rfl rfl
theorem u_146_597 (hx : narrow .boolean (.int x) = .int x) : PW B X 146 597 lv ([.int x]) h Q ↔ Q (some (.int x)) h := PW_bret rfl rfl (by simp) hx
theorem u_146_597_0 : PW B X 146 597 lv ([.int 0]) h Q ↔ Q (some (.int 0)) h := u_146_597 rfl
theorem u_146_597_1 : PW B X 146 597 lv ([.int 1]) h Q ↔ Q (some (.int 1)) h := u_146_597 rfl
theorem u_146_598 : PW B X 146 598 [v0, some (.ref a), v2, v3] (st) h Q ↔ PW B X 146 599 [v0, some (.ref a), v2, v3] (.ref a :: st) h Q := PW_step rfl rfl rfl rfl
theorem u_146_598n : PW B X 146 598 [v0, some .null, v2, v3] (st) h Q ↔ PW B X 146 599 [v0, some .null, v2, v3] (.null :: st) h Q := PW_step rfl rfl rfl rfl
theorem u_146_599 : PW B X 146 599 [some (.ref a), v1, v2, v3] (st) h Q ↔ PW B X 146 600 [some (.ref a), v1, v2, v3] (.ref a :: st) h Q := PW_step rfl rfl rfl rfl
theorem u_146_599n : PW B X 146 599 [some .null, v1, v2, v3] (st) h Q ↔ PW B X 146 600 [some .null, v1, v2, v3] (.null :: st) h Q := PW_step rfl rfl rfl rfl
theorem u_146_600 : PW B X 146 600 [v0, v1, v2, some (.int x)] (st) h Q ↔ PW B X 146 601 [v0, v1, v2, some (.int x)] (.int x :: st) h Q := PW_step rfl rfl rfl rfl
theorem u_146_601 : PW B X 146 601 lv (st) h Q ↔ PW B X 146 602 lv (.int 1 :: st) h Q := PW_step rfl rfl rfl rfl
theorem u_146_602 : PW B X 146 602 lv (.int y :: .int x :: st) h Q ↔ PW B X 146 603 lv (.int (x + y) :: st) h Q := PW_step rfl rfl rfl rfl
theorem u_146_603 (hx : pm_ix x X.2.1 = true) : PW B X 146 603 lv (.int x :: .ref X.1 :: st) h Q ↔ PW B X 146 604 lv (.int (X.2.2 x.toNatClampNeg) :: st) h Q := PW_sld rfl rfl hx
theorem u_146_604 : PW B X 146 604 lv (.int q0 :: .ref a :: st) h Q ↔ (pm_w st ≤ 8 ∧ pm_io B h a 0 = true ∧ PW B X 77 0 [some (.ref a), some (.int q0)] [] h (fun r h' => PW B X 146 607 lv (r.toList ++ st) h' Q)) := PW_cv (y := 77) (as := [.int q0]) (rest := st) rfl rfl rfl rfl rfl ⟨Nat.le_of_ble_eq_true rfl, Nat.le_of_ble_eq_true rfl, Nat.le_of_ble_eq_true rfl⟩
theorem u_146_607 : PW B X 146 607 [v0, v1, some (.ref a), v3] (st) h Q ↔ PW B X 146 608 [v0, v1, some (.ref a), v3] (.ref a :: st) h Q := PW_step rfl rfl rfl rfl
theorem u_146_607n : PW B X 146 607 [v0, v1, some .null, v3] (st) h Q ↔ PW B X 146 608 [v0, v1, some .null, v3] (.null :: st) h Q := PW_step rfl rfl rfl rfl
theorem u_146_608 : PW B X 146 608 [some (.ref a), v1, v2, v3] (st) h Q ↔ PW B X 146 609 [some (.ref a), v1, v2, v3] (.ref a :: st) h Q := PW_step rfl rfl rfl rfl
theorem u_146_608n : PW B X 146 608 [some .null, v1, v2, v3] (st) h Q ↔ PW B X 146 609 [some .null, v1, v2, v3] (.null :: st) h Q := PW_step rfl rfl rfl rfl
theorem u_146_609 : PW B X 146 609 [v0, v1, v2, some (.int x)] (st) h Q ↔ PW B X 146 610 [v0, v1, v2, some (.int x)] (.int x :: st) h Q := PW_step rfl rfl rfl rfl
theorem u_146_610 : PW B X 146 610 lv (st) h Q ↔ PW B X 146 611 lv (.int 1 :: st) h Q := PW_step rfl rfl rfl rfl
theorem u_146_611 : PW B X 146 611 lv (.int y :: .int x :: st) h Q ↔ PW B X 146 612 lv (.int (x + y) :: st) h Q := PW_step rfl rfl rfl rfl
theorem u_146_612 (hx : pm_ix x X.2.1 = true) : PW B X 146 612 lv (.int x :: .ref X.1 :: st) h Q ↔ PW B X 146 613 lv (.int (X.2.2 x.toNatClampNeg) :: st) h Q := PW_sld rfl rfl hx
theorem u_146_613 : PW B X 146 613 lv (.int q0 :: .ref a :: st) h Q ↔ (pm_w st ≤ 8 ∧ pm_io B h a 10 = true ∧ PW B X 135 0 [some (.ref a), some (.int q0)] [] h (fun r h' => PW B X 146 616 lv (r.toList ++ st) h' Q)) := PW_cv (y := 135) (as := [.int q0]) (rest := st) rfl rfl rfl rfl rfl ⟨Nat.le_of_ble_eq_true rfl, Nat.le_of_ble_eq_true rfl, Nat.le_of_ble_eq_true rfl⟩
theorem u_146_616 : PW B X 146 616 lv (.int y :: .int x :: st) h Q ↔ (if x = y then PW B X 146 823 lv (st) h Q else PW B X 146 619 lv (st) h Q) := PW_icmp rfl rfl pm_c_eq
theorem u_146_619 : PW B X 146 619 lv (st) h Q ↔ PW B X 146 620 lv (.int 0 :: st) h Q := PW_step rfl rfl rfl rfl
theorem u_146_620 (hx : narrow .boolean (.int x) = .int x) : PW B X 146 620 lv ([.int x]) h Q ↔ Q (some (.int x)) h := PW_bret rfl rfl (by simp) hx
theorem u_146_620_0 : PW B X 146 620 lv ([.int 0]) h Q ↔ Q (some (.int 0)) h := u_146_620 rfl
theorem u_146_620_1 : PW B X 146 620 lv ([.int 1]) h Q ↔ Q (some (.int 1)) h := u_146_620 rfl
theorem u_146_621 : PW B X 146 621 [v0, some (.ref a), v2, v3] (st) h Q ↔ PW B X 146 622 [v0, some (.ref a), v2, v3] (.ref a :: st) h Q := PW_step rfl rfl rfl rfl
theorem u_146_621n : PW B X 146 621 [v0, some .null, v2, v3] (st) h Q ↔ PW B X 146 622 [v0, some .null, v2, v3] (.null :: st) h Q := PW_step rfl rfl rfl rfl
theorem u_146_622 : PW B X 146 622 [some (.ref a), v1, v2, v3] (st) h Q ↔ PW B X 146 623 [some (.ref a), v1, v2, v3] (.ref a :: st) h Q := PW_step rfl rfl rfl rfl
theorem u_146_622n : PW B X 146 622 [some .null, v1, v2, v3] (st) h Q ↔ PW B X 146 623 [some .null, v1, v2, v3] (.null :: st) h Q := PW_step rfl rfl rfl rfl
theorem u_146_623 : PW B X 146 623 [v0, v1, v2, some (.int x)] (st) h Q ↔ PW B X 146 624 [v0, v1, v2, some (.int x)] (.int x :: st) h Q := PW_step rfl rfl rfl rfl
theorem u_146_624 : PW B X 146 624 lv (st) h Q ↔ PW B X 146 625 lv (.int 1 :: st) h Q := PW_step rfl rfl rfl rfl
theorem u_146_625 : PW B X 146 625 lv (.int y :: .int x :: st) h Q ↔ PW B X 146 626 lv (.int (x + y) :: st) h Q := PW_step rfl rfl rfl rfl
theorem u_146_626 (hx : pm_ix x X.2.1 = true) : PW B X 146 626 lv (.int x :: .ref X.1 :: st) h Q ↔ PW B X 146 627 lv (.int (X.2.2 x.toNatClampNeg) :: st) h Q := PW_sld rfl rfl hx
theorem u_146_627 : PW B X 146 627 [some (.ref a), v1, v2, v3] (st) h Q ↔ PW B X 146 628 [some (.ref a), v1, v2, v3] (.ref a :: st) h Q := PW_step rfl rfl rfl rfl
theorem u_146_627n : PW B X 146 627 [some .null, v1, v2, v3] (st) h Q ↔ PW B X 146 628 [some .null, v1, v2, v3] (.null :: st) h Q := PW_step rfl rfl rfl rfl
theorem u_146_628 : PW B X 146 628 [v0, v1, v2, some (.int x)] (st) h Q ↔ PW B X 146 629 [v0, v1, v2, some (.int x)] (.int x :: st) h Q := PW_step rfl rfl rfl rfl
theorem u_146_629 : PW B X 146 629 lv (st) h Q ↔ PW B X 146 630 lv (.int 2 :: st) h Q := PW_step rfl rfl rfl rfl
theorem u_146_630 : PW B X 146 630 lv (.int y :: .int x :: st) h Q ↔ PW B X 146 631 lv (.int (x + y) :: st) h Q := PW_step rfl rfl rfl rfl
theorem u_146_631 (hx : pm_ix x X.2.1 = true) : PW B X 146 631 lv (.int x :: .ref X.1 :: st) h Q ↔ PW B X 146 632 lv (.int (X.2.2 x.toNatClampNeg) :: st) h Q := PW_sld rfl rfl hx
theorem u_146_632 : PW B X 146 632 lv (.int q1 :: .int q0 :: .ref a :: st) h Q ↔ (pm_w st ≤ 8 ∧ pm_io B h a 0 = true ∧ PW B X 78 0 [some (.ref a), some (.int q0), some (.int q1), none] [] h (fun r h' => PW B X 146 635 lv (r.toList ++ st) h' Q)) := PW_cv (y := 78) (as := [.int q0, .int q1]) (rest := st) rfl rfl rfl rfl rfl ⟨Nat.le_of_ble_eq_true rfl, Nat.le_of_ble_eq_true rfl, Nat.le_of_ble_eq_true rfl⟩
theorem u_146_635 : PW B X 146 635 [v0, v1, some (.ref a), v3] (st) h Q ↔ PW B X 146 636 [v0, v1, some (.ref a), v3] (.ref a :: st) h Q := PW_step rfl rfl rfl rfl
theorem u_146_635n : PW B X 146 635 [v0, v1, some .null, v3] (st) h Q ↔ PW B X 146 636 [v0, v1, some .null, v3] (.null :: st) h Q := PW_step rfl rfl rfl rfl
theorem u_146_636 : PW B X 146 636 [some (.ref a), v1, v2, v3] (st) h Q ↔ PW B X 146 637 [some (.ref a), v1, v2, v3] (.ref a :: st) h Q := PW_step rfl rfl rfl rfl
theorem u_146_636n : PW B X 146 636 [some .null, v1, v2, v3] (st) h Q ↔ PW B X 146 637 [some .null, v1, v2, v3] (.null :: st) h Q := PW_step rfl rfl rfl rfl
theorem u_146_637 : PW B X 146 637 [v0, v1, v2, some (.int x)] (st) h Q ↔ PW B X 146 638 [v0, v1, v2, some (.int x)] (.int x :: st) h Q := PW_step rfl rfl rfl rfl
theorem u_146_638 : PW B X 146 638 lv (st) h Q ↔ PW B X 146 639 lv (.int 1 :: st) h Q := PW_step rfl rfl rfl rfl
theorem u_146_639 : PW B X 146 639 lv (.int y :: .int x :: st) h Q ↔ PW B X 146 640 lv (.int (x + y) :: st) h Q := PW_step rfl rfl rfl rfl
theorem u_146_640 (hx : pm_ix x X.2.1 = true) : PW B X 146 640 lv (.int x :: .ref X.1 :: st) h Q ↔ PW B X 146 641 lv (.int (X.2.2 x.toNatClampNeg) :: st) h Q := PW_sld rfl rfl hx
theorem u_146_641 : PW B X 146 641 [some (.ref a), v1, v2, v3] (st) h Q ↔ PW B X 146 642 [some (.ref a), v1, v2, v3] (.ref a :: st) h Q := PW_step rfl rfl rfl rfl
theorem u_146_641n : PW B X 146 641 [some .null, v1, v2, v3] (st) h Q ↔ PW B X 146 642 [some .null, v1, v2, v3] (.null :: st) h Q := PW_step rfl rfl rfl rfl
theorem u_146_642 : PW B X 146 642 [v0, v1, v2, some (.int x)] (st) h Q ↔ PW B X 146 643 [v0, v1, v2, some (.int x)] (.int x :: st) h Q := PW_step rfl rfl rfl rfl
theorem u_146_643 : PW B X 146 643 lv (st) h Q ↔ PW B X 146 644 lv (.int 2 :: st) h Q := PW_step rfl rfl rfl rfl
theorem u_146_644 : PW B X 146 644 lv (.int y :: .int x :: st) h Q ↔ PW B X 146 645 lv (.int (x + y) :: st) h Q := PW_step rfl rfl rfl rfl
theorem u_146_645 (hx : pm_ix x X.2.1 = true) : PW B X 146 645 lv (.int x :: .ref X.1 :: st) h Q ↔ PW B X 146 646 lv (.int (X.2.2 x.toNatClampNeg) :: st) h Q := PW_sld rfl rfl hx
theorem u_146_646 : PW B X 146 646 lv (.int q1 :: .int q0 :: .ref a :: st) h Q ↔ (pm_w st ≤ 8 ∧ pm_io B h a 10 = true ∧ PW B X 136 0 [some (.ref a), some (.int q0), some (.int q1)] [] h (fun r h' => PW B X 146 649 lv (r.toList ++ st) h' Q)) := PW_cv (y := 136) (as := [.int q0, .int q1]) (rest := st) rfl rfl rfl rfl rfl ⟨Nat.le_of_ble_eq_true rfl, Nat.le_of_ble_eq_true rfl, Nat.le_of_ble_eq_true rfl⟩
theorem u_146_649 : PW B X 146 649 lv (.long w :: .long z :: st) h Q ↔ PW B X 146 650 lv (.int (lg_cmp z w) :: st) h Q := PW_step rfl rfl rfl rfl
theorem u_146_650 : PW B X 146 650 lv (.int x :: st) h Q ↔ (if x = 0 then PW B X 146 823 lv (st) h Q else PW B X 146 653 lv (st) h Q) := PW_if rfl rfl pm_c_eq
theorem u_146_653 : PW B X 146 653 lv (st) h Q ↔ PW B X 146 654 lv (.int 0 :: st) h Q := PW_step rfl rfl rfl rfl
theorem u_146_654 (hx : narrow .boolean (.int x) = .int x) : PW B X 146 654 lv ([.int x]) h Q ↔ Q (some (.int x)) h := PW_bret rfl rfl (by simp) hx
theorem u_146_654_0 : PW B X 146 654 lv ([.int 0]) h Q ↔ Q (some (.int 0)) h := u_146_654 rfl
theorem u_146_654_1 : PW B X 146 654 lv ([.int 1]) h Q ↔ Q (some (.int 1)) h := u_146_654 rfl
theorem u_146_655 : PW B X 146 655 [v0, some (.ref a), v2, v3] (st) h Q ↔ PW B X 146 656 [v0, some (.ref a), v2, v3] (.ref a :: st) h Q := PW_step rfl rfl rfl rfl
theorem u_146_655n : PW B X 146 655 [v0, some .null, v2, v3] (st) h Q ↔ PW B X 146 656 [v0, some .null, v2, v3] (.null :: st) h Q := PW_step rfl rfl rfl rfl
theorem u_146_656 : PW B X 146 656 [some (.ref a), v1, v2, v3] (st) h Q ↔ PW B X 146 657 [some (.ref a), v1, v2, v3] (.ref a :: st) h Q := PW_step rfl rfl rfl rfl
theorem u_146_656n : PW B X 146 656 [some .null, v1, v2, v3] (st) h Q ↔ PW B X 146 657 [some .null, v1, v2, v3] (.null :: st) h Q := PW_step rfl rfl rfl rfl
theorem u_146_657 : PW B X 146 657 [v0, v1, v2, some (.int x)] (st) h Q ↔ PW B X 146 658 [v0, v1, v2, some (.int x)] (.int x :: st) h Q := PW_step rfl rfl rfl rfl
theorem u_146_658 : PW B X 146 658 lv (st) h Q ↔ PW B X 146 659 lv (.int 1 :: st) h Q := PW_step rfl rfl rfl rfl
theorem u_146_659 : PW B X 146 659 lv (.int y :: .int x :: st) h Q ↔ PW B X 146 660 lv (.int (x + y) :: st) h Q := PW_step rfl rfl rfl rfl
theorem u_146_660 (hx : pm_ix x X.2.1 = true) : PW B X 146 660 lv (.int x :: .ref X.1 :: st) h Q ↔ PW B X 146 661 lv (.int (X.2.2 x.toNatClampNeg) :: st) h Q := PW_sld rfl rfl hx
theorem u_146_661 : PW B X 146 661 [some (.ref a), v1, v2, v3] (st) h Q ↔ PW B X 146 662 [some (.ref a), v1, v2, v3] (.ref a :: st) h Q := PW_step rfl rfl rfl rfl
theorem u_146_661n : PW B X 146 661 [some .null, v1, v2, v3] (st) h Q ↔ PW B X 146 662 [some .null, v1, v2, v3] (.null :: st) h Q := PW_step rfl rfl rfl rfl
theorem u_146_662 : PW B X 146 662 [v0, v1, v2, some (.int x)] (st) h Q ↔ PW B X 146 663 [v0, v1, v2, some (.int x)] (.int x :: st) h Q := PW_step rfl rfl rfl rfl
theorem u_146_663 : PW B X 146 663 lv (st) h Q ↔ PW B X 146 664 lv (.int 2 :: st) h Q := PW_step rfl rfl rfl rfl
theorem u_146_664 : PW B X 146 664 lv (.int y :: .int x :: st) h Q ↔ PW B X 146 665 lv (.int (x + y) :: st) h Q := PW_step rfl rfl rfl rfl
theorem u_146_665 (hx : pm_ix x X.2.1 = true) : PW B X 146 665 lv (.int x :: .ref X.1 :: st) h Q ↔ PW B X 146 666 lv (.int (X.2.2 x.toNatClampNeg) :: st) h Q := PW_sld rfl rfl hx
theorem u_146_666 : PW B X 146 666 lv (.int q1 :: .int q0 :: .ref a :: st) h Q ↔ (pm_w st ≤ 8 ∧ pm_io B h a 0 = true ∧ PW B X 79 0 [some (.ref a), some (.int q0), some (.int q1)] [] h (fun r h' => PW B X 146 669 lv (r.toList ++ st) h' Q)) := PW_cv (y := 79) (as := [.int q0, .int q1]) (rest := st) rfl rfl rfl rfl rfl ⟨Nat.le_of_ble_eq_true rfl, Nat.le_of_ble_eq_true rfl, Nat.le_of_ble_eq_true rfl⟩
theorem u_146_669 : PW B X 146 669 [v0, v1, some (.ref a), v3] (st) h Q ↔ PW B X 146 670 [v0, v1, some (.ref a), v3] (.ref a :: st) h Q := PW_step rfl rfl rfl rfl
theorem u_146_669n : PW B X 146 669 [v0, v1, some .null, v3] (st) h Q ↔ PW B X 146 670 [v0, v1, some .null, v3] (.null :: st) h Q := PW_step rfl rfl rfl rfl
theorem u_146_670 : PW B X 146 670 [some (.ref a), v1, v2, v3] (st) h Q ↔ PW B X 146 671 [some (.ref a), v1, v2, v3] (.ref a :: st) h Q := PW_step rfl rfl rfl rfl
theorem u_146_670n : PW B X 146 670 [some .null, v1, v2, v3] (st) h Q ↔ PW B X 146 671 [some .null, v1, v2, v3] (.null :: st) h Q := PW_step rfl rfl rfl rfl
theorem u_146_671 : PW B X 146 671 [v0, v1, v2, some (.int x)] (st) h Q ↔ PW B X 146 672 [v0, v1, v2, some (.int x)] (.int x :: st) h Q := PW_step rfl rfl rfl rfl
theorem u_146_672 : PW B X 146 672 lv (st) h Q ↔ PW B X 146 673 lv (.int 1 :: st) h Q := PW_step rfl rfl rfl rfl
theorem u_146_673 : PW B X 146 673 lv (.int y :: .int x :: st) h Q ↔ PW B X 146 674 lv (.int (x + y) :: st) h Q := PW_step rfl rfl rfl rfl
theorem u_146_674 (hx : pm_ix x X.2.1 = true) : PW B X 146 674 lv (.int x :: .ref X.1 :: st) h Q ↔ PW B X 146 675 lv (.int (X.2.2 x.toNatClampNeg) :: st) h Q := PW_sld rfl rfl hx
theorem u_146_675 : PW B X 146 675 [some (.ref a), v1, v2, v3] (st) h Q ↔ PW B X 146 676 [some (.ref a), v1, v2, v3] (.ref a :: st) h Q := PW_step rfl rfl rfl rfl
theorem u_146_675n : PW B X 146 675 [some .null, v1, v2, v3] (st) h Q ↔ PW B X 146 676 [some .null, v1, v2, v3] (.null :: st) h Q := PW_step rfl rfl rfl rfl
theorem u_146_676 : PW B X 146 676 [v0, v1, v2, some (.int x)] (st) h Q ↔ PW B X 146 677 [v0, v1, v2, some (.int x)] (.int x :: st) h Q := PW_step rfl rfl rfl rfl
theorem u_146_677 : PW B X 146 677 lv (st) h Q ↔ PW B X 146 678 lv (.int 2 :: st) h Q := PW_step rfl rfl rfl rfl
theorem u_146_678 : PW B X 146 678 lv (.int y :: .int x :: st) h Q ↔ PW B X 146 679 lv (.int (x + y) :: st) h Q := PW_step rfl rfl rfl rfl
theorem u_146_679 (hx : pm_ix x X.2.1 = true) : PW B X 146 679 lv (.int x :: .ref X.1 :: st) h Q ↔ PW B X 146 680 lv (.int (X.2.2 x.toNatClampNeg) :: st) h Q := PW_sld rfl rfl hx
theorem u_146_680 : PW B X 146 680 lv (.int q1 :: .int q0 :: .ref a :: st) h Q ↔ (pm_w st ≤ 8 ∧ pm_io B h a 10 = true ∧ PW B X 138 0 [some (.ref a), some (.int q0), some (.int q1)] [] h (fun r h' => PW B X 146 683 lv (r.toList ++ st) h' Q)) := PW_cv (y := 138) (as := [.int q0, .int q1]) (rest := st) rfl rfl rfl rfl rfl ⟨Nat.le_of_ble_eq_true rfl, Nat.le_of_ble_eq_true rfl, Nat.le_of_ble_eq_true rfl⟩
theorem u_146_683 : PW B X 146 683 lv (.int y :: .int x :: st) h Q ↔ (if x = y then PW B X 146 823 lv (st) h Q else PW B X 146 686 lv (st) h Q) := PW_icmp rfl rfl pm_c_eq
theorem u_146_686 : PW B X 146 686 lv (st) h Q ↔ PW B X 146 687 lv (.int 0 :: st) h Q := PW_step rfl rfl rfl rfl
theorem u_146_687 (hx : narrow .boolean (.int x) = .int x) : PW B X 146 687 lv ([.int x]) h Q ↔ Q (some (.int x)) h := PW_bret rfl rfl (by simp) hx
theorem u_146_687_0 : PW B X 146 687 lv ([.int 0]) h Q ↔ Q (some (.int 0)) h := u_146_687 rfl
theorem u_146_687_1 : PW B X 146 687 lv ([.int 1]) h Q ↔ Q (some (.int 1)) h := u_146_687 rfl
theorem u_146_688 : PW B X 146 688 [v0, some (.ref a), v2, v3] (st) h Q ↔ PW B X 146 689 [v0, some (.ref a), v2, v3] (.ref a :: st) h Q := PW_step rfl rfl rfl rfl
theorem u_146_688n : PW B X 146 688 [v0, some .null, v2, v3] (st) h Q ↔ PW B X 146 689 [v0, some .null, v2, v3] (.null :: st) h Q := PW_step rfl rfl rfl rfl
theorem u_146_689 : PW B X 146 689 [some (.ref a), v1, v2, v3] (st) h Q ↔ PW B X 146 690 [some (.ref a), v1, v2, v3] (.ref a :: st) h Q := PW_step rfl rfl rfl rfl
theorem u_146_689n : PW B X 146 689 [some .null, v1, v2, v3] (st) h Q ↔ PW B X 146 690 [some .null, v1, v2, v3] (.null :: st) h Q := PW_step rfl rfl rfl rfl
theorem u_146_690 : PW B X 146 690 [v0, v1, v2, some (.int x)] (st) h Q ↔ PW B X 146 691 [v0, v1, v2, some (.int x)] (.int x :: st) h Q := PW_step rfl rfl rfl rfl
theorem u_146_691 : PW B X 146 691 lv (st) h Q ↔ PW B X 146 692 lv (.int 1 :: st) h Q := PW_step rfl rfl rfl rfl
theorem u_146_692 : PW B X 146 692 lv (.int y :: .int x :: st) h Q ↔ PW B X 146 693 lv (.int (x + y) :: st) h Q := PW_step rfl rfl rfl rfl
theorem u_146_693 (hx : pm_ix x X.2.1 = true) : PW B X 146 693 lv (.int x :: .ref X.1 :: st) h Q ↔ PW B X 146 694 lv (.int (X.2.2 x.toNatClampNeg) :: st) h Q := PW_sld rfl rfl hx
theorem u_146_694 : PW B X 146 694 lv (.int q0 :: .ref a :: st) h Q ↔ (pm_w st ≤ 8 ∧ pm_io B h a 0 = true ∧ PW B X 80 0 [some (.ref a), some (.int q0), none, none, none] [] h (fun r h' => PW B X 146 697 lv (r.toList ++ st) h' Q)) := PW_cv (y := 80) (as := [.int q0]) (rest := st) rfl rfl rfl rfl rfl ⟨Nat.le_of_ble_eq_true rfl, Nat.le_of_ble_eq_true rfl, Nat.le_of_ble_eq_true rfl⟩
theorem u_146_697 : PW B X 146 697 [v0, v1, some (.ref a), v3] (st) h Q ↔ PW B X 146 698 [v0, v1, some (.ref a), v3] (.ref a :: st) h Q := PW_step rfl rfl rfl rfl
theorem u_146_697n : PW B X 146 697 [v0, v1, some .null, v3] (st) h Q ↔ PW B X 146 698 [v0, v1, some .null, v3] (.null :: st) h Q := PW_step rfl rfl rfl rfl
theorem u_146_698 : PW B X 146 698 [some (.ref a), v1, v2, v3] (st) h Q ↔ PW B X 146 699 [some (.ref a), v1, v2, v3] (.ref a :: st) h Q := PW_step rfl rfl rfl rfl
theorem u_146_698n : PW B X 146 698 [some .null, v1, v2, v3] (st) h Q ↔ PW B X 146 699 [some .null, v1, v2, v3] (.null :: st) h Q := PW_step rfl rfl rfl rfl
theorem u_146_699 : PW B X 146 699 [v0, v1, v2, some (.int x)] (st) h Q ↔ PW B X 146 700 [v0, v1, v2, some (.int x)] (.int x :: st) h Q := PW_step rfl rfl rfl rfl
theorem u_146_700 : PW B X 146 700 lv (st) h Q ↔ PW B X 146 701 lv (.int 1 :: st) h Q := PW_step rfl rfl rfl rfl
theorem u_146_701 : PW B X 146 701 lv (.int y :: .int x :: st) h Q ↔ PW B X 146 702 lv (.int (x + y) :: st) h Q := PW_step rfl rfl rfl rfl
theorem u_146_702 (hx : pm_ix x X.2.1 = true) : PW B X 146 702 lv (.int x :: .ref X.1 :: st) h Q ↔ PW B X 146 703 lv (.int (X.2.2 x.toNatClampNeg) :: st) h Q := PW_sld rfl rfl hx
theorem u_146_703 : PW B X 146 703 lv (.int q0 :: .ref a :: st) h Q ↔ (pm_w st ≤ 8 ∧ pm_io B h a 10 = true ∧ PW B X 139 0 [some (.ref a), some (.int q0), none, none, none, none] [] h (fun r h' => PW B X 146 706 lv (r.toList ++ st) h' Q)) := PW_cv (y := 139) (as := [.int q0]) (rest := st) rfl rfl rfl rfl rfl ⟨Nat.le_of_ble_eq_true rfl, Nat.le_of_ble_eq_true rfl, Nat.le_of_ble_eq_true rfl⟩
theorem u_146_706 : PW B X 146 706 lv (.int y :: .int x :: st) h Q ↔ (if x = y then PW B X 146 823 lv (st) h Q else PW B X 146 709 lv (st) h Q) := PW_icmp rfl rfl pm_c_eq
theorem u_146_709 : PW B X 146 709 lv (st) h Q ↔ PW B X 146 710 lv (.int 0 :: st) h Q := PW_step rfl rfl rfl rfl
theorem u_146_710 (hx : narrow .boolean (.int x) = .int x) : PW B X 146 710 lv ([.int x]) h Q ↔ Q (some (.int x)) h := PW_bret rfl rfl (by simp) hx
theorem u_146_710_0 : PW B X 146 710 lv ([.int 0]) h Q ↔ Q (some (.int 0)) h := u_146_710 rfl
theorem u_146_710_1 : PW B X 146 710 lv ([.int 1]) h Q ↔ Q (some (.int 1)) h := u_146_710 rfl
theorem u_146_711 : PW B X 146 711 [v0, some (.ref a), v2, v3] (st) h Q ↔ PW B X 146 712 [v0, some (.ref a), v2, v3] (.ref a :: st) h Q := PW_step rfl rfl rfl rfl
theorem u_146_711n : PW B X 146 711 [v0, some .null, v2, v3] (st) h Q ↔ PW B X 146 712 [v0, some .null, v2, v3] (.null :: st) h Q := PW_step rfl rfl rfl rfl
theorem u_146_712 : PW B X 146 712 [some (.ref a), v1, v2, v3] (st) h Q ↔ PW B X 146 713 [some (.ref a), v1, v2, v3] (.ref a :: st) h Q := PW_step rfl rfl rfl rfl
theorem u_146_712n : PW B X 146 712 [some .null, v1, v2, v3] (st) h Q ↔ PW B X 146 713 [some .null, v1, v2, v3] (.null :: st) h Q := PW_step rfl rfl rfl rfl
theorem u_146_713 : PW B X 146 713 [v0, v1, v2, some (.int x)] (st) h Q ↔ PW B X 146 714 [v0, v1, v2, some (.int x)] (.int x :: st) h Q := PW_step rfl rfl rfl rfl
theorem u_146_714 : PW B X 146 714 lv (st) h Q ↔ PW B X 146 715 lv (.int 1 :: st) h Q := PW_step rfl rfl rfl rfl
theorem u_146_715 : PW B X 146 715 lv (.int y :: .int x :: st) h Q ↔ PW B X 146 716 lv (.int (x + y) :: st) h Q := PW_step rfl rfl rfl rfl
theorem u_146_716 (hx : pm_ix x X.2.1 = true) : PW B X 146 716 lv (.int x :: .ref X.1 :: st) h Q ↔ PW B X 146 717 lv (.int (X.2.2 x.toNatClampNeg) :: st) h Q := PW_sld rfl rfl hx
theorem u_146_717 : PW B X 146 717 [some (.ref a), v1, v2, v3] (st) h Q ↔ PW B X 146 718 [some (.ref a), v1, v2, v3] (.ref a :: st) h Q := PW_step rfl rfl rfl rfl
theorem u_146_717n : PW B X 146 717 [some .null, v1, v2, v3] (st) h Q ↔ PW B X 146 718 [some .null, v1, v2, v3] (.null :: st) h Q := PW_step rfl rfl rfl rfl
theorem u_146_718 : PW B X 146 718 [v0, v1, v2, some (.int x)] (st) h Q ↔ PW B X 146 719 [v0, v1, v2, some (.int x)] (.int x :: st) h Q := PW_step rfl rfl rfl rfl
theorem u_146_719 : PW B X 146 719 lv (st) h Q ↔ PW B X 146 720 lv (.int 2 :: st) h Q := PW_step rfl rfl rfl rfl
theorem u_146_720 : PW B X 146 720 lv (.int y :: .int x :: st) h Q ↔ PW B X 146 721 lv (.int (x + y) :: st) h Q := PW_step rfl rfl rfl rfl
theorem u_146_721 (hx : pm_ix x X.2.1 = true) : PW B X 146 721 lv (.int x :: .ref X.1 :: st) h Q ↔ PW B X 146 722 lv (.int (X.2.2 x.toNatClampNeg) :: st) h Q := PW_sld rfl rfl hx
theorem u_146_722 : PW B X 146 722 lv (.int q1 :: .int q0 :: .ref a :: st) h Q ↔ (pm_w st ≤ 8 ∧ pm_io B h a 0 = true ∧ PW B X 84 0 [some (.ref a), some (.int q0), some (.int q1), none] [] h (fun r h' => PW B X 146 725 lv (r.toList ++ st) h' Q)) := PW_cv (y := 84) (as := [.int q0, .int q1]) (rest := st) rfl rfl rfl rfl rfl ⟨Nat.le_of_ble_eq_true rfl, Nat.le_of_ble_eq_true rfl, Nat.le_of_ble_eq_true rfl⟩
theorem u_146_725 : PW B X 146 725 [v0, v1, some (.ref a), v3] (st) h Q ↔ PW B X 146 726 [v0, v1, some (.ref a), v3] (.ref a :: st) h Q := PW_step rfl rfl rfl rfl
theorem u_146_725n : PW B X 146 725 [v0, v1, some .null, v3] (st) h Q ↔ PW B X 146 726 [v0, v1, some .null, v3] (.null :: st) h Q := PW_step rfl rfl rfl rfl
theorem u_146_726 : PW B X 146 726 [some (.ref a), v1, v2, v3] (st) h Q ↔ PW B X 146 727 [some (.ref a), v1, v2, v3] (.ref a :: st) h Q := PW_step rfl rfl rfl rfl
theorem u_146_726n : PW B X 146 726 [some .null, v1, v2, v3] (st) h Q ↔ PW B X 146 727 [some .null, v1, v2, v3] (.null :: st) h Q := PW_step rfl rfl rfl rfl
theorem u_146_727 : PW B X 146 727 [v0, v1, v2, some (.int x)] (st) h Q ↔ PW B X 146 728 [v0, v1, v2, some (.int x)] (.int x :: st) h Q := PW_step rfl rfl rfl rfl
theorem u_146_728 : PW B X 146 728 lv (st) h Q ↔ PW B X 146 729 lv (.int 1 :: st) h Q := PW_step rfl rfl rfl rfl
theorem u_146_729 : PW B X 146 729 lv (.int y :: .int x :: st) h Q ↔ PW B X 146 730 lv (.int (x + y) :: st) h Q := PW_step rfl rfl rfl rfl
theorem u_146_730 (hx : pm_ix x X.2.1 = true) : PW B X 146 730 lv (.int x :: .ref X.1 :: st) h Q ↔ PW B X 146 731 lv (.int (X.2.2 x.toNatClampNeg) :: st) h Q := PW_sld rfl rfl hx
theorem u_146_731 : PW B X 146 731 [some (.ref a), v1, v2, v3] (st) h Q ↔ PW B X 146 732 [some (.ref a), v1, v2, v3] (.ref a :: st) h Q := PW_step rfl rfl rfl rfl
theorem u_146_731n : PW B X 146 731 [some .null, v1, v2, v3] (st) h Q ↔ PW B X 146 732 [some .null, v1, v2, v3] (.null :: st) h Q := PW_step rfl rfl rfl rfl
theorem u_146_732 : PW B X 146 732 [v0, v1, v2, some (.int x)] (st) h Q ↔ PW B X 146 733 [v0, v1, v2, some (.int x)] (.int x :: st) h Q := PW_step rfl rfl rfl rfl
theorem u_146_733 : PW B X 146 733 lv (st) h Q ↔ PW B X 146 734 lv (.int 2 :: st) h Q := PW_step rfl rfl rfl rfl
theorem u_146_734 : PW B X 146 734 lv (.int y :: .int x :: st) h Q ↔ PW B X 146 735 lv (.int (x + y) :: st) h Q := PW_step rfl rfl rfl rfl
theorem u_146_735 (hx : pm_ix x X.2.1 = true) : PW B X 146 735 lv (.int x :: .ref X.1 :: st) h Q ↔ PW B X 146 736 lv (.int (X.2.2 x.toNatClampNeg) :: st) h Q := PW_sld rfl rfl hx
theorem u_146_736 : PW B X 146 736 lv (.int q1 :: .int q0 :: .ref a :: st) h Q ↔ (pm_w st ≤ 8 ∧ pm_io B h a 10 = true ∧ PW B X 141 0 [some (.ref a), some (.int q0), some (.int q1)] [] h (fun r h' => PW B X 146 739 lv (r.toList ++ st) h' Q)) := PW_cv (y := 141) (as := [.int q0, .int q1]) (rest := st) rfl rfl rfl rfl rfl ⟨Nat.le_of_ble_eq_true rfl, Nat.le_of_ble_eq_true rfl, Nat.le_of_ble_eq_true rfl⟩
theorem u_146_739 : PW B X 146 739 lv (.int y :: .int x :: st) h Q ↔ (if x = y then PW B X 146 823 lv (st) h Q else PW B X 146 742 lv (st) h Q) := PW_icmp rfl rfl pm_c_eq
theorem u_146_742 : PW B X 146 742 lv (st) h Q ↔ PW B X 146 743 lv (.int 0 :: st) h Q := PW_step rfl rfl rfl rfl
theorem u_146_743 (hx : narrow .boolean (.int x) = .int x) : PW B X 146 743 lv ([.int x]) h Q ↔ Q (some (.int x)) h := PW_bret rfl rfl (by simp) hx
theorem u_146_743_0 : PW B X 146 743 lv ([.int 0]) h Q ↔ Q (some (.int 0)) h := u_146_743 rfl
theorem u_146_743_1 : PW B X 146 743 lv ([.int 1]) h Q ↔ Q (some (.int 1)) h := u_146_743 rfl
theorem u_146_744 : PW B X 146 744 [v0, some (.ref a), v2, v3] (st) h Q ↔ PW B X 146 745 [v0, some (.ref a), v2, v3] (.ref a :: st) h Q := PW_step rfl rfl rfl rfl
theorem u_146_744n : PW B X 146 744 [v0, some .null, v2, v3] (st) h Q ↔ PW B X 146 745 [v0, some .null, v2, v3] (.null :: st) h Q := PW_step rfl rfl rfl rfl
theorem u_146_745 : PW B X 146 745 [some (.ref a), v1, v2, v3] (st) h Q ↔ PW B X 146 746 [some (.ref a), v1, v2, v3] (.ref a :: st) h Q := PW_step rfl rfl rfl rfl
theorem u_146_745n : PW B X 146 745 [some .null, v1, v2, v3] (st) h Q ↔ PW B X 146 746 [some .null, v1, v2, v3] (.null :: st) h Q := PW_step rfl rfl rfl rfl
theorem u_146_746 : PW B X 146 746 [v0, v1, v2, some (.int x)] (st) h Q ↔ PW B X 146 747 [v0, v1, v2, some (.int x)] (.int x :: st) h Q := PW_step rfl rfl rfl rfl
theorem u_146_747 : PW B X 146 747 lv (st) h Q ↔ PW B X 146 748 lv (.int 1 :: st) h Q := PW_step rfl rfl rfl rfl
theorem u_146_748 : PW B X 146 748 lv (.int y :: .int x :: st) h Q ↔ PW B X 146 749 lv (.int (x + y) :: st) h Q := PW_step rfl rfl rfl rfl
theorem u_146_749 (hx : pm_ix x X.2.1 = true) : PW B X 146 749 lv (.int x :: .ref X.1 :: st) h Q ↔ PW B X 146 750 lv (.int (X.2.2 x.toNatClampNeg) :: st) h Q := PW_sld rfl rfl hx
theorem u_146_750 : PW B X 146 750 [some (.ref a), v1, v2, v3] (st) h Q ↔ PW B X 146 751 [some (.ref a), v1, v2, v3] (.ref a :: st) h Q := PW_step rfl rfl rfl rfl
theorem u_146_750n : PW B X 146 750 [some .null, v1, v2, v3] (st) h Q ↔ PW B X 146 751 [some .null, v1, v2, v3] (.null :: st) h Q := PW_step rfl rfl rfl rfl
theorem u_146_751 : PW B X 146 751 [v0, v1, v2, some (.int x)] (st) h Q ↔ PW B X 146 752 [v0, v1, v2, some (.int x)] (.int x :: st) h Q := PW_step rfl rfl rfl rfl
theorem u_146_752 : PW B X 146 752 lv (st) h Q ↔ PW B X 146 753 lv (.int 2 :: st) h Q := PW_step rfl rfl rfl rfl
theorem u_146_753 : PW B X 146 753 lv (.int y :: .int x :: st) h Q ↔ PW B X 146 754 lv (.int (x + y) :: st) h Q := PW_step rfl rfl rfl rfl
theorem u_146_754 (hx : pm_ix x X.2.1 = true) : PW B X 146 754 lv (.int x :: .ref X.1 :: st) h Q ↔ PW B X 146 755 lv (.int (X.2.2 x.toNatClampNeg) :: st) h Q := PW_sld rfl rfl hx
theorem u_146_755 : PW B X 146 755 lv (.int q1 :: .int q0 :: .ref a :: st) h Q ↔ (pm_w st ≤ 8 ∧ pm_io B h a 0 = true ∧ PW B X 85 0 [some (.ref a), some (.int q0), some (.int q1), none, none, none] [] h (fun r h' => PW B X 146 758 lv (r.toList ++ st) h' Q)) := PW_cv (y := 85) (as := [.int q0, .int q1]) (rest := st) rfl rfl rfl rfl rfl ⟨Nat.le_of_ble_eq_true rfl, Nat.le_of_ble_eq_true rfl, Nat.le_of_ble_eq_true rfl⟩
theorem u_146_758 : PW B X 146 758 [v0, v1, some (.ref a), v3] (st) h Q ↔ PW B X 146 759 [v0, v1, some (.ref a), v3] (.ref a :: st) h Q := PW_step rfl rfl rfl rfl
theorem u_146_758n : PW B X 146 758 [v0, v1, some .null, v3] (st) h Q ↔ PW B X 146 759 [v0, v1, some .null, v3] (.null :: st) h Q := PW_step rfl rfl rfl rfl
theorem u_146_759 : PW B X 146 759 [some (.ref a), v1, v2, v3] (st) h Q ↔ PW B X 146 760 [some (.ref a), v1, v2, v3] (.ref a :: st) h Q := PW_step rfl rfl rfl rfl
theorem u_146_759n : PW B X 146 759 [some .null, v1, v2, v3] (st) h Q ↔ PW B X 146 760 [some .null, v1, v2, v3] (.null :: st) h Q := PW_step rfl rfl rfl rfl
theorem u_146_760 : PW B X 146 760 [v0, v1, v2, some (.int x)] (st) h Q ↔ PW B X 146 761 [v0, v1, v2, some (.int x)] (.int x :: st) h Q := PW_step rfl rfl rfl rfl
theorem u_146_761 : PW B X 146 761 lv (st) h Q ↔ PW B X 146 762 lv (.int 1 :: st) h Q := PW_step rfl rfl rfl rfl
theorem u_146_762 : PW B X 146 762 lv (.int y :: .int x :: st) h Q ↔ PW B X 146 763 lv (.int (x + y) :: st) h Q := PW_step rfl rfl rfl rfl
theorem u_146_763 (hx : pm_ix x X.2.1 = true) : PW B X 146 763 lv (.int x :: .ref X.1 :: st) h Q ↔ PW B X 146 764 lv (.int (X.2.2 x.toNatClampNeg) :: st) h Q := PW_sld rfl rfl hx
theorem u_146_764 : PW B X 146 764 [some (.ref a), v1, v2, v3] (st) h Q ↔ PW B X 146 765 [some (.ref a), v1, v2, v3] (.ref a :: st) h Q := PW_step rfl rfl rfl rfl
theorem u_146_764n : PW B X 146 764 [some .null, v1, v2, v3] (st) h Q ↔ PW B X 146 765 [some .null, v1, v2, v3] (.null :: st) h Q := PW_step rfl rfl rfl rfl
theorem u_146_765 : PW B X 146 765 [v0, v1, v2, some (.int x)] (st) h Q ↔ PW B X 146 766 [v0, v1, v2, some (.int x)] (.int x :: st) h Q := PW_step rfl rfl rfl rfl
theorem u_146_766 : PW B X 146 766 lv (st) h Q ↔ PW B X 146 767 lv (.int 2 :: st) h Q := PW_step rfl rfl rfl rfl
theorem u_146_767 : PW B X 146 767 lv (.int y :: .int x :: st) h Q ↔ PW B X 146 768 lv (.int (x + y) :: st) h Q := PW_step rfl rfl rfl rfl
theorem u_146_768 (hx : pm_ix x X.2.1 = true) : PW B X 146 768 lv (.int x :: .ref X.1 :: st) h Q ↔ PW B X 146 769 lv (.int (X.2.2 x.toNatClampNeg) :: st) h Q := PW_sld rfl rfl hx
theorem u_146_769 : PW B X 146 769 lv (.int q1 :: .int q0 :: .ref a :: st) h Q ↔ (pm_w st ≤ 8 ∧ pm_io B h a 10 = true ∧ PW B X 142 0 [some (.ref a), some (.int q0), some (.int q1), none, none, none] [] h (fun r h' => PW B X 146 772 lv (r.toList ++ st) h' Q)) := PW_cv (y := 142) (as := [.int q0, .int q1]) (rest := st) rfl rfl rfl rfl rfl ⟨Nat.le_of_ble_eq_true rfl, Nat.le_of_ble_eq_true rfl, Nat.le_of_ble_eq_true rfl⟩
theorem u_146_772 : PW B X 146 772 lv (.int y :: .int x :: st) h Q ↔ (if x = y then PW B X 146 823 lv (st) h Q else PW B X 146 775 lv (st) h Q) := PW_icmp rfl rfl pm_c_eq
theorem u_146_775 : PW B X 146 775 lv (st) h Q ↔ PW B X 146 776 lv (.int 0 :: st) h Q := PW_step rfl rfl rfl rfl
theorem u_146_776 (hx : narrow .boolean (.int x) = .int x) : PW B X 146 776 lv ([.int x]) h Q ↔ Q (some (.int x)) h := PW_bret rfl rfl (by simp) hx
theorem u_146_776_0 : PW B X 146 776 lv ([.int 0]) h Q ↔ Q (some (.int 0)) h := u_146_776 rfl
theorem u_146_776_1 : PW B X 146 776 lv ([.int 1]) h Q ↔ Q (some (.int 1)) h := u_146_776 rfl
theorem u_146_777 : PW B X 146 777 [v0, some (.ref a), v2, v3] (st) h Q ↔ PW B X 146 778 [v0, some (.ref a), v2, v3] (.ref a :: st) h Q := PW_step rfl rfl rfl rfl
theorem u_146_777n : PW B X 146 777 [v0, some .null, v2, v3] (st) h Q ↔ PW B X 146 778 [v0, some .null, v2, v3] (.null :: st) h Q := PW_step rfl rfl rfl rfl
theorem u_146_778 : PW B X 146 778 [some (.ref a), v1, v2, v3] (st) h Q ↔ PW B X 146 779 [some (.ref a), v1, v2, v3] (.ref a :: st) h Q := PW_step rfl rfl rfl rfl
theorem u_146_778n : PW B X 146 778 [some .null, v1, v2, v3] (st) h Q ↔ PW B X 146 779 [some .null, v1, v2, v3] (.null :: st) h Q := PW_step rfl rfl rfl rfl
theorem u_146_779 : PW B X 146 779 [v0, v1, v2, some (.int x)] (st) h Q ↔ PW B X 146 780 [v0, v1, v2, some (.int x)] (.int x :: st) h Q := PW_step rfl rfl rfl rfl
theorem u_146_780 : PW B X 146 780 lv (st) h Q ↔ PW B X 146 781 lv (.int 1 :: st) h Q := PW_step rfl rfl rfl rfl
theorem u_146_781 : PW B X 146 781 lv (.int y :: .int x :: st) h Q ↔ PW B X 146 782 lv (.int (x + y) :: st) h Q := PW_step rfl rfl rfl rfl
theorem u_146_782 (hx : pm_ix x X.2.1 = true) : PW B X 146 782 lv (.int x :: .ref X.1 :: st) h Q ↔ PW B X 146 783 lv (.int (X.2.2 x.toNatClampNeg) :: st) h Q := PW_sld rfl rfl hx
theorem u_146_783 : PW B X 146 783 lv (.int q0 :: .ref a :: st) h Q ↔ (pm_w st ≤ 8 ∧ pm_io B h a 0 = true ∧ PW B X 86 0 [some (.ref a), some (.int q0), none] [] h (fun r h' => PW B X 146 786 lv (r.toList ++ st) h' Q)) := PW_cv (y := 86) (as := [.int q0]) (rest := st) rfl rfl rfl rfl rfl ⟨Nat.le_of_ble_eq_true rfl, Nat.le_of_ble_eq_true rfl, Nat.le_of_ble_eq_true rfl⟩
theorem u_146_786 : PW B X 146 786 [v0, v1, some (.ref a), v3] (st) h Q ↔ PW B X 146 787 [v0, v1, some (.ref a), v3] (.ref a :: st) h Q := PW_step rfl rfl rfl rfl
theorem u_146_786n : PW B X 146 786 [v0, v1, some .null, v3] (st) h Q ↔ PW B X 146 787 [v0, v1, some .null, v3] (.null :: st) h Q := PW_step rfl rfl rfl rfl
theorem u_146_787 : PW B X 146 787 [some (.ref a), v1, v2, v3] (st) h Q ↔ PW B X 146 788 [some (.ref a), v1, v2, v3] (.ref a :: st) h Q := PW_step rfl rfl rfl rfl
theorem u_146_787n : PW B X 146 787 [some .null, v1, v2, v3] (st) h Q ↔ PW B X 146 788 [some .null, v1, v2, v3] (.null :: st) h Q := PW_step rfl rfl rfl rfl
theorem u_146_788 : PW B X 146 788 [v0, v1, v2, some (.int x)] (st) h Q ↔ PW B X 146 789 [v0, v1, v2, some (.int x)] (.int x :: st) h Q := PW_step rfl rfl rfl rfl
theorem u_146_789 : PW B X 146 789 lv (st) h Q ↔ PW B X 146 790 lv (.int 1 :: st) h Q := PW_step rfl rfl rfl rfl
theorem u_146_790 : PW B X 146 790 lv (.int y :: .int x :: st) h Q ↔ PW B X 146 791 lv (.int (x + y) :: st) h Q := PW_step rfl rfl rfl rfl
theorem u_146_791 (hx : pm_ix x X.2.1 = true) : PW B X 146 791 lv (.int x :: .ref X.1 :: st) h Q ↔ PW B X 146 792 lv (.int (X.2.2 x.toNatClampNeg) :: st) h Q := PW_sld rfl rfl hx
theorem u_146_792 : PW B X 146 792 lv (.int q0 :: .ref a :: st) h Q ↔ (pm_w st ≤ 8 ∧ pm_io B h a 10 = true ∧ PW B X 143 0 [some (.ref a), some (.int q0), none, none, none] [] h (fun r h' => PW B X 146 795 lv (r.toList ++ st) h' Q)) := PW_cv (y := 143) (as := [.int q0]) (rest := st) rfl rfl rfl rfl rfl ⟨Nat.le_of_ble_eq_true rfl, Nat.le_of_ble_eq_true rfl, Nat.le_of_ble_eq_true rfl⟩
theorem u_146_795 : PW B X 146 795 lv (.int y :: .int x :: st) h Q ↔ (if x = y then PW B X 146 823 lv (st) h Q else PW B X 146 798 lv (st) h Q) := PW_icmp rfl rfl pm_c_eq
theorem u_146_798 : PW B X 146 798 lv (st) h Q ↔ PW B X 146 799 lv (.int 0 :: st) h Q := PW_step rfl rfl rfl rfl
theorem u_146_799 (hx : narrow .boolean (.int x) = .int x) : PW B X 146 799 lv ([.int x]) h Q ↔ Q (some (.int x)) h := PW_bret rfl rfl (by simp) hx
theorem u_146_799_0 : PW B X 146 799 lv ([.int 0]) h Q ↔ Q (some (.int 0)) h := u_146_799 rfl
theorem u_146_799_1 : PW B X 146 799 lv ([.int 1]) h Q ↔ Q (some (.int 1)) h := u_146_799 rfl
theorem u_146_800 : PW B X 146 800 [v0, some (.ref a), v2, v3] (st) h Q ↔ PW B X 146 801 [v0, some (.ref a), v2, v3] (.ref a :: st) h Q := PW_step rfl rfl rfl rfl
theorem u_146_800n : PW B X 146 800 [v0, some .null, v2, v3] (st) h Q ↔ PW B X 146 801 [v0, some .null, v2, v3] (.null :: st) h Q := PW_step rfl rfl rfl rfl
theorem u_146_801 : PW B X 146 801 [some (.ref a), v1, v2, v3] (st) h Q ↔ PW B X 146 802 [some (.ref a), v1, v2, v3] (.ref a :: st) h Q := PW_step rfl rfl rfl rfl
theorem u_146_801n : PW B X 146 801 [some .null, v1, v2, v3] (st) h Q ↔ PW B X 146 802 [some .null, v1, v2, v3] (.null :: st) h Q := PW_step rfl rfl rfl rfl
theorem u_146_802 : PW B X 146 802 [v0, v1, v2, some (.int x)] (st) h Q ↔ PW B X 146 803 [v0, v1, v2, some (.int x)] (.int x :: st) h Q := PW_step rfl rfl rfl rfl
theorem u_146_803 : PW B X 146 803 lv (st) h Q ↔ PW B X 146 804 lv (.int 1 :: st) h Q := PW_step rfl rfl rfl rfl
theorem u_146_804 : PW B X 146 804 lv (.int y :: .int x :: st) h Q ↔ PW B X 146 805 lv (.int (x + y) :: st) h Q := PW_step rfl rfl rfl rfl
theorem u_146_805 (hx : pm_ix x X.2.1 = true) : PW B X 146 805 lv (.int x :: .ref X.1 :: st) h Q ↔ PW B X 146 806 lv (.int (X.2.2 x.toNatClampNeg) :: st) h Q := PW_sld rfl rfl hx
theorem u_146_806 : PW B X 146 806 lv (.int q0 :: .ref a :: st) h Q ↔ (pm_w st ≤ 8 ∧ pm_io B h a 0 = true ∧ PW B X 90 0 [some (.ref a), some (.int q0)] [] h (fun r h' => PW B X 146 809 lv (r.toList ++ st) h' Q)) := PW_cv (y := 90) (as := [.int q0]) (rest := st) rfl rfl rfl rfl rfl ⟨Nat.le_of_ble_eq_true rfl, Nat.le_of_ble_eq_true rfl, Nat.le_of_ble_eq_true rfl⟩
theorem u_146_809 : PW B X 146 809 [v0, v1, some (.ref a), v3] (st) h Q ↔ PW B X 146 810 [v0, v1, some (.ref a), v3] (.ref a :: st) h Q := PW_step rfl rfl rfl rfl
theorem u_146_809n : PW B X 146 809 [v0, v1, some .null, v3] (st) h Q ↔ PW B X 146 810 [v0, v1, some .null, v3] (.null :: st) h Q := PW_step rfl rfl rfl rfl
theorem u_146_810 : PW B X 146 810 [some (.ref a), v1, v2, v3] (st) h Q ↔ PW B X 146 811 [some (.ref a), v1, v2, v3] (.ref a :: st) h Q := PW_step rfl rfl rfl rfl
theorem u_146_810n : PW B X 146 810 [some .null, v1, v2, v3] (st) h Q ↔ PW B X 146 811 [some .null, v1, v2, v3] (.null :: st) h Q := PW_step rfl rfl rfl rfl
theorem u_146_811 : PW B X 146 811 [v0, v1, v2, some (.int x)] (st) h Q ↔ PW B X 146 812 [v0, v1, v2, some (.int x)] (.int x :: st) h Q := PW_step rfl rfl rfl rfl
theorem u_146_812 : PW B X 146 812 lv (st) h Q ↔ PW B X 146 813 lv (.int 1 :: st) h Q := PW_step rfl rfl rfl rfl
theorem u_146_813 : PW B X 146 813 lv (.int y :: .int x :: st) h Q ↔ PW B X 146 814 lv (.int (x + y) :: st) h Q := PW_step rfl rfl rfl rfl
theorem u_146_814 (hx : pm_ix x X.2.1 = true) : PW B X 146 814 lv (.int x :: .ref X.1 :: st) h Q ↔ PW B X 146 815 lv (.int (X.2.2 x.toNatClampNeg) :: st) h Q := PW_sld rfl rfl hx
theorem u_146_815 : PW B X 146 815 lv (.int q0 :: .ref a :: st) h Q ↔ (pm_w st ≤ 8 ∧ pm_io B h a 10 = true ∧ PW B X 145 0 [some (.ref a), some (.int q0), none, none, none] [] h (fun r h' => PW B X 146 818 lv (r.toList ++ st) h' Q)) := PW_cv (y := 145) (as := [.int q0]) (rest := st) rfl rfl rfl rfl rfl ⟨Nat.le_of_ble_eq_true rfl, Nat.le_of_ble_eq_true rfl, Nat.le_of_ble_eq_true rfl⟩
theorem u_146_818 : PW B X 146 818 lv (.int y :: .int x :: st) h Q ↔ (if x = y then PW B X 146 823 lv (st) h Q else PW B X 146 821 lv (st) h Q) := PW_icmp rfl rfl pm_c_eq
theorem u_146_821 : PW B X 146 821 lv (st) h Q ↔ PW B X 146 822 lv (.int 0 :: st) h Q := PW_step rfl rfl rfl rfl
theorem u_146_822 (hx : narrow .boolean (.int x) = .int x) : PW B X 146 822 lv ([.int x]) h Q ↔ Q (some (.int x)) h := PW_bret rfl rfl (by simp) hx
theorem u_146_822_0 : PW B X 146 822 lv ([.int 0]) h Q ↔ Q (some (.int 0)) h := u_146_822 rfl
theorem u_146_822_1 : PW B X 146 822 lv ([.int 1]) h Q ↔ Q (some (.int 1)) h := u_146_822 rfl
theorem u_146_823 : PW B X 146 823 [v0, v1, v2, some (.int x)] (st) h Q ↔ PW B X 146 826 [v0, v1, pm_c v2, some (.int (x + 6))] (st) h Q := PW_step rfl rfl rfl rfl
theorem u_146_826 : PW B X 146 826 lv (st) h Q ↔ PW B X 146 18 lv (st) h Q := PW_step rfl rfl rfl rfl
theorem u_146_829 : PW B X 146 829 lv (st) h Q ↔ PW B X 146 830 lv (.int 1 :: st) h Q := PW_step rfl rfl rfl rfl
theorem u_146_830 (hx : narrow .boolean (.int x) = .int x) : PW B X 146 830 lv ([.int x]) h Q ↔ Q (some (.int x)) h := PW_bret rfl rfl (by simp) hx
theorem u_146_830_0 : PW B X 146 830 lv ([.int 0]) h Q ↔ Q (some (.int 0)) h := u_146_830 rfl
theorem u_146_830_1 : PW B X 146 830 lv ([.int 1]) h Q ↔ Q (some (.int 1)) h := u_146_830 rfl
end

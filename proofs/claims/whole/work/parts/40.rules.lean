/-! RULES OF THE PURE MACHINE, as equivalences: simp walks a method's code with their instances (parts 41 and on, written by ugen.py). -/
def pm_O {α : Type} (o : Option α) (K : α → Prop) : Prop := ∃ v, o = some v ∧ K v
theorem pm_O_some {α : Type} (v : α) (K : α → Prop) : pm_O (some v) K ↔ K v := ⟨fun ⟨w, e, k⟩ => by cases e; exact k, fun k => ⟨v, rfl, k⟩⟩
theorem pm_O_none {α : Type} (K : α → Prop) : pm_O none K ↔ False := ⟨fun ⟨_, e, _⟩ => (by cases e), False.elim⟩
theorem pm_O_bind {α β : Type} (o : Option α) (f : α → Option β) (K : β → Prop) : pm_O (o.bind f) K ↔ pm_O o (fun v => pm_O (f v) K) := by
  cases o with
  | none => simp [pm_O]
  | some v => rw [Option.bind_some, pm_O_some]
theorem pm_O_ite {α : Type} {c : Prop} {_ : Decidable c} (a b : Option α) (K : α → Prop) : pm_O (if c then a else b) K ↔ (if c then pm_O a K else pm_O b K) := by
  split <;> exact Iff.rfl
section PMU
variable {B : Nat} {X : pm_X} {j pc : Nat} {lv : pm_L} {st : List Value} {h : pm_H} {Q : Option Value → pm_H → Prop}
theorem PW_st1 {i : Instr} {len : Nat} (hc : pm_cd j pc = some (i, len)) (hr : pm_rt j i st = none) (hl : pm_tg j i = none) : PW B X j pc lv st h Q ↔ pm_O (pm_st1 B X j i len pc lv st h) (fun q => PW B X j q.1 q.2.1 q.2.2.1 q.2.2.2 Q) := by
  cases hs : pm_st1 B X j i len pc lv st h with
  | some q =>
    rw [pm_O_some]
    exact PW_step hc hr hl hs
  | none =>
    rw [pm_O_none]
    refine ⟨?_, False.elim⟩
    rintro ⟨n, o, e, -⟩
    cases n with
    | zero => simp [pm_run] at e
    | succ n =>
      rw [pm_run, hc] at e
      simp only [Option.bind_some, hr, hl, hs, Option.bind_none] at e
      cases e
theorem PW_pc {a b : Nat} (e : a = b) : PW B X j a lv st h Q ↔ PW B X j b lv st h Q := by rw [e]
/-- fields -/
theorem PW_getf {k ci f a : Nat} (hc : pm_cd j pc = some (.getfield k, 3)) (hf : pm_fl j k = some (ci, f)) : PW B X j pc lv (.ref a :: st) h Q ↔ pm_O (pm_gf (pm_at B h a) ci f) (fun v => PW B X j (pc + 3) lv (v :: st) h Q) := by
  rw [PW_st1 hc rfl rfl]
  simp only [pm_st1, hf, pm_a1, pm_O_bind, pm_O_some]
theorem PW_putf {k ci f a : Nat} {v : Value} (hc : pm_cd j pc = some (.putfield k, 3)) (hf : pm_fp j k = some (ci, f)) : PW B X j pc lv (v :: .ref a :: st) h Q ↔ pm_O (pm_pf (pm_at B h a) ci f v) (fun e => PW B X j (pc + 3) lv st (pm_set B h a e) Q) := by
  rw [PW_st1 hc rfl rfl]
  simp only [pm_st1, hf, pm_O_bind, pm_O_some]
/-- arrays -/
theorem PW_iald {a : Nat} {i : Int32} (hc : pm_cd j pc = some (.iaload, 1)) (hj : Nat.beq j pm_lj = false) : PW B X j pc lv (.int i :: .ref a :: st) h Q ↔ pm_O (pm_ldi 0 (pm_at B h a) i) (fun v => PW B X j (pc + 1) lv (v :: st) h Q) := by
  rw [PW_st1 hc rfl rfl]
  simp only [pm_st1, pm_ai, hj, cond_false, pm_O_bind, pm_O_some]
theorem PW_cald {a : Nat} {i : Int32} (hc : pm_cd j pc = some (.caload, 1)) : PW B X j pc lv (.int i :: .ref a :: st) h Q ↔ pm_O (pm_ldi 2 (pm_at B h a) i) (fun v => PW B X j (pc + 1) lv (v :: st) h Q) := by
  rw [PW_st1 hc rfl rfl]
  simp only [pm_st1, pm_ai, pm_O_bind, pm_O_some]
theorem PW_bald {a : Nat} {i : Int32} (hc : pm_cd j pc = some (.baload, 1)) : PW B X j pc lv (.int i :: .ref a :: st) h Q ↔ pm_O (pm_ldi 3 (pm_at B h a) i) (fun v => PW B X j (pc + 1) lv (v :: st) h Q) := by
  rw [PW_st1 hc rfl rfl]
  simp only [pm_st1, pm_ai, pm_O_bind, pm_O_some]
theorem PW_lald {a : Nat} {i : Int32} (hc : pm_cd j pc = some (.laload, 1)) : PW B X j pc lv (.int i :: .ref a :: st) h Q ↔ pm_O (pm_ldl (pm_at B h a) i) (fun v => PW B X j (pc + 1) lv (v :: st) h Q) := by
  rw [PW_st1 hc rfl rfl]
  simp only [pm_st1, pm_ai, pm_O_bind, pm_O_some]
theorem PW_aald {a : Nat} {i : Int32} (hc : pm_cd j pc = some (.aaload, 1)) : PW B X j pc lv (.int i :: .ref a :: st) h Q ↔ pm_O (pm_lda (pm_at B h a) i) (fun v => PW B X j (pc + 1) lv (v :: st) h Q) := by
  rw [PW_st1 hc rfl rfl]
  simp only [pm_st1, pm_ai, pm_O_bind, pm_O_some]
theorem PW_iast {a : Nat} {i x : Int32} (hc : pm_cd j pc = some (.iastore, 1)) : PW B X j pc lv (.int x :: .int i :: .ref a :: st) h Q ↔ pm_O (pm_sti 0 (pm_at B h a) i x) (fun e => PW B X j (pc + 1) lv st (pm_set B h a e) Q) := by
  rw [PW_st1 hc rfl rfl]
  simp only [pm_st1, pm_O_bind, pm_O_some]
theorem PW_cast {a : Nat} {i x : Int32} (hc : pm_cd j pc = some (.castore, 1)) : PW B X j pc lv (.int x :: .int i :: .ref a :: st) h Q ↔ pm_O (pm_sti 2 (pm_at B h a) i x) (fun e => PW B X j (pc + 1) lv st (pm_set B h a e) Q) := by
  rw [PW_st1 hc rfl rfl]
  simp only [pm_st1, pm_O_bind, pm_O_some]
theorem PW_bast {a : Nat} {i x : Int32} (hc : pm_cd j pc = some (.bastore, 1)) : PW B X j pc lv (.int x :: .int i :: .ref a :: st) h Q ↔ pm_O (pm_sti 3 (pm_at B h a) i x) (fun e => PW B X j (pc + 1) lv st (pm_set B h a e) Q) := by
  rw [PW_st1 hc rfl rfl]
  simp only [pm_st1, pm_O_bind, pm_O_some]
theorem PW_last {a : Nat} {i : Int32} {x : Int64} (hc : pm_cd j pc = some (.lastore, 1)) : PW B X j pc lv (.long x :: .int i :: .ref a :: st) h Q ↔ pm_O (pm_stl (pm_at B h a) i x) (fun e => PW B X j (pc + 1) lv st (pm_set B h a e) Q) := by
  rw [PW_st1 hc rfl rfl]
  simp only [pm_st1, pm_O_bind, pm_O_some]
theorem PW_aast {a v : Nat} {i : Int32} (hc : pm_cd j pc = some (.aastore, 1)) : PW B X j pc lv (.ref v :: .int i :: .ref a :: st) h Q ↔ pm_O (pm_sta (pm_at B h a) i v (pm_at B h v)) (fun e => PW B X j (pc + 1) lv st (pm_set B h a e) Q) := by
  rw [PW_st1 hc rfl rfl]
  simp only [pm_st1, pm_O_bind, pm_O_some]
theorem PW_alen {a : Nat} (hc : pm_cd j pc = some (.arraylength, 1)) (hj : Nat.beq j pm_lj = false) : PW B X j pc lv (.ref a :: st) h Q ↔ pm_O (pm_len (pm_at B h a)) (fun v => PW B X j (pc + 1) lv (v :: st) h Q) := by
  rw [PW_st1 hc rfl rfl]
  simp only [pm_st1, pm_a1, hj, cond_false, pm_O_bind, pm_O_some]
/-- quotients -/
theorem PW_idiv {x y : Int32} (hc : pm_cd j pc = some (.idiv, 1)) : PW B X j pc lv (.int y :: .int x :: st) h Q ↔ (¬ y = 0 ∧ PW B X j (pc + 1) lv (.int (x / y) :: st) h Q) := by
  rw [PW_st1 hc rfl rfl]
  by_cases hy : y = 0 <;> simp [pm_st1, pm_i2, hy, pm_O_some, pm_O_none]
theorem PW_irem {x y : Int32} (hc : pm_cd j pc = some (.irem, 1)) : PW B X j pc lv (.int y :: .int x :: st) h Q ↔ (¬ y = 0 ∧ PW B X j (pc + 1) lv (.int (x - x / y * y) :: st) h Q) := by
  rw [PW_st1 hc rfl rfl]
  by_cases hy : y = 0 <;> simp [pm_st1, pm_i2, hy, pm_O_some, pm_O_none]
theorem PW_ldiv {x y : Int64} (hc : pm_cd j pc = some (.ldiv, 1)) : PW B X j pc lv (.long y :: .long x :: st) h Q ↔ (¬ y = 0 ∧ PW B X j (pc + 1) lv (.long (x / y) :: st) h Q) := by
  rw [PW_st1 hc rfl rfl]
  by_cases hy : y = 0 <;> simp [pm_st1, pm_l2, hy, pm_O_some, pm_O_none]
theorem PW_lrem {x y : Int64} (hc : pm_cd j pc = some (.lrem, 1)) : PW B X j pc lv (.long y :: .long x :: st) h Q ↔ (¬ y = 0 ∧ PW B X j (pc + 1) lv (.long (x - x / y * y) :: st) h Q) := by
  rw [PW_st1 hc rfl rfl]
  by_cases hy : y = 0 <;> simp [pm_st1, pm_l2, hy, pm_O_some, pm_O_none]
/-- branches: the condition as a proposition -/
theorem PW_if {cd : ClassFile.Cond} {off : Int} {x : Int32} {t : Nat} {P : Prop} {_ : Decidable P} (hc : pm_cd j pc = some (.ifCond cd off, 3)) (ht : pm_j pc off (fun t => some (t, lv, st, h)) = some (t, lv, st, h)) (hp : pm_cnd cd x 0 = true ↔ P) : PW B X j pc lv (.int x :: st) h Q ↔ (if P then PW B X j t lv st h Q else PW B X j (pc + 3) lv st h Q) := by
  have h1 : pm_st1 B X j (.ifCond cd off) 3 pc lv (.int x :: st) h = some (if pm_cnd cd x 0 then t else pc + 3, lv, st, h) := by
    show pm_j pc off (fun t => some (if pm_cnd cd x 0 then t else pc + 3, lv, st, h)) = _
    unfold pm_j at ht ⊢
    split at ht
    · rename_i h0; cases ht; rw [if_pos h0]
    · cases ht
  rw [PW_step hc rfl rfl h1, PW_ite]
  by_cases q : P
  · rw [if_pos q, if_pos (hp.mpr q)]
  · rw [if_neg q, if_neg (fun z => q (hp.mp z))]
theorem PW_icmp {cd : ClassFile.Cond} {off : Int} {x y : Int32} {t : Nat} {P : Prop} {_ : Decidable P} (hc : pm_cd j pc = some (.if_icmp cd off, 3)) (ht : pm_j pc off (fun t => some (t, lv, st, h)) = some (t, lv, st, h)) (hp : pm_cnd cd x y = true ↔ P) : PW B X j pc lv (.int y :: .int x :: st) h Q ↔ (if P then PW B X j t lv st h Q else PW B X j (pc + 3) lv st h Q) := by
  have h1 : pm_st1 B X j (.if_icmp cd off) 3 pc lv (.int y :: .int x :: st) h = some (if pm_cnd cd x y then t else pc + 3, lv, st, h) := by
    show pm_j pc off (fun t => some (if pm_cnd cd x y then t else pc + 3, lv, st, h)) = _
    unfold pm_j at ht ⊢
    split at ht
    · rename_i h0; cases ht; rw [if_pos h0]
    · cases ht
  rw [PW_step hc rfl rfl h1, PW_ite]
  by_cases q : P
  · rw [if_pos q, if_pos (hp.mpr q)]
  · rw [if_neg q, if_neg (fun z => q (hp.mp z))]
theorem pm_c_eq {x y : Int32} : pm_cnd .eq x y = true ↔ x = y := by simp [pm_cnd]
theorem pm_c_ne {x y : Int32} : pm_cnd .ne x y = true ↔ ¬ x = y := by simp [pm_cnd]
theorem pm_c_lt {x y : Int32} : pm_cnd .lt x y = true ↔ x < y := by simp [pm_cnd]
theorem pm_c_ge {x y : Int32} : pm_cnd .ge x y = true ↔ y ≤ x := by simp [pm_cnd]
theorem pm_c_gt {x y : Int32} : pm_cnd .gt x y = true ↔ y < x := by simp [pm_cnd]
theorem pm_c_le {x y : Int32} : pm_cnd .le x y = true ↔ x ≤ y := by simp [pm_cnd]
/-- calls -/
theorem PW_cl {i : Instr} {y : Nat} {as rest : List Value} (hc : pm_cd j pc = some (i, 3)) (hr : pm_rt j i st = none) (ht : pm_tg j i = some y) (ha : pm_args st (pm_na y) = some (as, rest)) (hd : pm_dep y < pm_dep j ∧ 19 + pm_ml y + pm_loc y ≤ pm_loc j ∧ (pm_slots as).length ≤ pm_ml y) :
    PW B X j pc lv st h Q ↔ (pm_w rest ≤ 8 ∧ pm_rc B h y as = true ∧ PW B X y 0 (pm_ent (pm_ml y) as) [] h (fun r h' => PW B X j (pc + 3) lv (r.toList ++ rest) h' Q)) := by
  by_cases hq : pm_w rest ≤ 8 ∧ pm_rc B h y as = true
  · have hl : pm_cl B j i st h = some (y, as, rest) := by
      unfold pm_cl
      rw [ht, Option.bind_some, ha, Option.bind_some]
      exact if_pos ⟨hd.1, hd.2.1, hq.1, hd.2.2, hq.2⟩
    rw [PW_call hc hr ht hl]
    exact ⟨fun z => ⟨hq.1, hq.2, z⟩, fun z => z.2.2⟩
  · refine ⟨?_, fun z => absurd ⟨z.1, z.2.1⟩ hq⟩
    rintro ⟨n, o, e, -⟩
    cases n with
    | zero => simp [pm_run] at e
    | succ n =>
      have hl : pm_cl B j i st h = none := by
        unfold pm_cl
        rw [ht, Option.bind_some, ha, Option.bind_some]
        exact if_neg fun z => hq ⟨z.2.2.1, z.2.2.2.2⟩
      rw [pm_run, hc] at e
      simp only [Option.bind_some, hr, ht, hl, Option.bind_none] at e
      cases e
end PMU
def pm_io (B : Nat) (h : pm_H) (a ci : Nat) : Bool := match pm_at B h a with
  | some (.inr (c, _)) => c == ci
  | _ => false
theorem pm_io_of {B : Nat} {h : pm_H} {a ci : Nat} {fs : List Value} (e : pm_at B h a = some (.inr (ci, fs))) : pm_io B h a ci = true := by
  unfold pm_io
  rw [e]
  exact beq_self_eq_true ci
section PMV
variable {B : Nat} {X : pm_X} {j pc : Nat} {lv : pm_L} {st : List Value} {h : pm_H} {Q : Option Value → pm_H → Prop}
theorem PW_cs {i : Instr} {y : Nat} {as rest : List Value} (hc : pm_cd j pc = some (i, 3)) (hr : pm_rt j i st = none) (ht : pm_tg j i = some y) (ha : pm_args st (pm_na y) = some (as, rest)) (hk : pm_kd y = 0) (hd : pm_dep y < pm_dep j ∧ 19 + pm_ml y + pm_loc y ≤ pm_loc j ∧ (pm_slots as).length ≤ pm_ml y) :
    PW B X j pc lv st h Q ↔ (pm_w rest ≤ 8 ∧ PW B X y 0 (pm_ent (pm_ml y) as) [] h (fun r h' => PW B X j (pc + 3) lv (r.toList ++ rest) h' Q)) := by
  rw [PW_cl hc hr ht ha hd]
  have : pm_rc B h y as = true := by unfold pm_rc; rw [hk]; rfl
  exact ⟨fun z => ⟨z.1, z.2.2⟩, fun z => ⟨z.1, this, z.2⟩⟩
theorem PW_cv {i : Instr} {y a : Nat} {as rest : List Value} (hc : pm_cd j pc = some (i, 3)) (hr : pm_rt j i st = none) (ht : pm_tg j i = some y) (ha : pm_args st (pm_na y) = some (.ref a :: as, rest)) (hk : pm_kd y = 1) (hd : pm_dep y < pm_dep j ∧ 19 + pm_ml y + pm_loc y ≤ pm_loc j ∧ (pm_slots (.ref a :: as)).length ≤ pm_ml y) :
    PW B X j pc lv st h Q ↔ (pm_w rest ≤ 8 ∧ pm_io B h a (pm_ci y) = true ∧ PW B X y 0 (pm_ent (pm_ml y) (.ref a :: as)) [] h (fun r h' => PW B X j (pc + 3) lv (r.toList ++ rest) h' Q)) := by
  rw [PW_cl hc hr ht ha hd]
  have : pm_rc B h y (.ref a :: as) = pm_io B h a (pm_ci y) := by
    unfold pm_rc pm_io
    rw [hk]
    rfl
  rw [this]
theorem PW_ci {i : Instr} {y a : Nat} {as rest : List Value} (hc : pm_cd j pc = some (i, 3)) (hr : pm_rt j i st = none) (ht : pm_tg j i = some y) (ha : pm_args st (pm_na y) = some (.ref a :: as, rest)) (hk : pm_kd y = 2) (hd : pm_dep y < pm_dep j ∧ 19 + pm_ml y + pm_loc y ≤ pm_loc j ∧ (pm_slots (.ref a :: as)).length ≤ pm_ml y) :
    PW B X j pc lv st h Q ↔ (pm_w rest ≤ 8 ∧ PW B X y 0 (pm_ent (pm_ml y) (.ref a :: as)) [] h (fun r h' => PW B X j (pc + 3) lv (r.toList ++ rest) h' Q)) := by
  rw [PW_cl hc hr ht ha hd]
  have : pm_rc B h y (.ref a :: as) = true := by unfold pm_rc; rw [hk]; rfl
  exact ⟨fun z => ⟨z.1, z.2.2⟩, fun z => ⟨z.1, this, z.2⟩⟩
theorem PW_math {k t : Nat} {v : Value} {st' rest : List Value} (hc : pm_cd j pc = some (.invokestatic k, 3)) (ht : pm_tg j (.invokestatic k) = none) (hm : pm_mt j k = some t) (hs : pm_st1 B X j (.invokestatic k) 3 pc lv st' h = if pm_w rest ≤ 8 then some (pc + 3, lv, v :: rest, h) else none) : PW B X j pc lv st' h Q ↔ (pm_w rest ≤ 8 ∧ PW B X j (pc + 3) lv (v :: rest) h Q) := by
  rw [PW_st1 hc rfl ht, hs, pm_O_ite]
  split
  · rename_i hw
    rw [pm_O_some]
    exact ⟨fun z => ⟨hw, z⟩, fun z => z.2⟩
  · rename_i hw
    rw [pm_O_none]
    exact ⟨False.elim, fun z => hw z.1⟩
theorem PW_obj {k a : Nat} {rest : List Value} (hc : pm_cd j pc = some (.invokespecial k, 3)) (ht : pm_tg j (.invokespecial k) = none) (hm : pm_ob j k = true) : PW B X j pc lv (.ref a :: rest) h Q ↔ (pm_w rest ≤ 8 ∧ PW B X j (pc + 3) lv rest h Q) := by
  have hs : pm_st1 B X j (.invokespecial k) 3 pc lv (.ref a :: rest) h = if pm_w rest ≤ 8 then some (pc + 3, lv, rest, h) else none := by
    simp only [pm_st1, hm]
  rw [PW_st1 hc rfl ht, hs, pm_O_ite]
  split
  · rename_i hw
    rw [pm_O_some]
    exact ⟨fun z => ⟨hw, z⟩, fun z => z.2⟩
  · rename_i hw
    rw [pm_O_none]
    exact ⟨False.elim, fun z => hw z.1⟩
theorem PW_tout {d lo hi : Int} {offs : Array Int} {len t : Nat} {x : Int32} (hc : pm_cd j pc = some (.tableswitch d lo hi offs, len)) (ht : pm_j pc d (fun t => some (t, lv, st, h)) = some (t, lv, st, h)) (hx : x.toInt < lo ∨ hi < x.toInt) : PW B X j pc lv (.int x :: st) h Q ↔ PW B X j t lv st h Q := by
  refine PW_step hc rfl rfl ?_
  simp only [pm_st1, pm_i1]
  rw [if_pos hx]
  exact ht
theorem PW_bret {v : Int32} {ty : FieldType} (hc : pm_cd j pc = some (.ireturn, 1)) (hr : pm_rty j = some ty) (hy : ty = .boolean ∨ ty = .char) (hn : narrow ty (.int v) = .int v) : PW B X j pc lv [.int v] h Q ↔ Q (some (.int v)) h := by
  refine PW_ret hc ?_
  rcases hy with rfl | rfl <;> simp [pm_rt, hr, hn]
theorem PW_sld {i : Int32} (hc : pm_cd j pc = some (.iaload, 1)) (hj : Nat.beq j pm_lj = true) (hx : pm_ix i X.2.1 = true) : PW B X j pc lv (.int i :: .ref X.1 :: st) h Q ↔ PW B X j (pc + 1) lv (.int (X.2.2 i.toNatClampNeg) :: st) h Q := by
  refine PW_step hc rfl rfl ?_
  simp only [pm_st1, pm_ai, hj, cond_true]
  exact if_pos ⟨trivial, hx⟩
theorem PW_slen (hc : pm_cd j pc = some (.arraylength, 1)) (hj : Nat.beq j pm_lj = true) : PW B X j pc lv (.ref X.1 :: st) h Q ↔ PW B X j (pc + 1) lv (.int (Int32.ofNat X.2.1) :: st) h Q := by
  refine PW_step hc rfl rfl ?_
  simp only [pm_st1, pm_a1, hj, cond_true, if_true]
end PMV

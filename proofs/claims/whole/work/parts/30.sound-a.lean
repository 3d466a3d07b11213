/-! THE REAL MACHINE FOLLOWS THE PURE ONE, a: locals, the heap's picture, rows that keep the heap's size. -/
theorem pm_i1_some {α : Type} {st : List Value} {f : Int32 → List Value → Option α} {o : α} (h : pm_i1 st f = some o) : ∃ x r, st = .int x :: r ∧ f x r = some o := by
  unfold pm_i1 at h
  split at h
  · exact ⟨_, _, rfl, h⟩
  · cases h
theorem pm_i2_some {α : Type} {st : List Value} {f : Int32 → Int32 → List Value → Option α} {o : α} (h : pm_i2 st f = some o) : ∃ x y r, st = .int y :: .int x :: r ∧ f x y r = some o := by
  unfold pm_i2 at h
  split at h
  · exact ⟨_, _, _, rfl, h⟩
  · cases h
theorem pm_l1_some {α : Type} {st : List Value} {f : Int64 → List Value → Option α} {o : α} (h : pm_l1 st f = some o) : ∃ x r, st = .long x :: r ∧ f x r = some o := by
  unfold pm_l1 at h
  split at h
  · exact ⟨_, _, rfl, h⟩
  · cases h
theorem pm_l2_some {α : Type} {st : List Value} {f : Int64 → Int64 → List Value → Option α} {o : α} (h : pm_l2 st f = some o) : ∃ x y r, st = .long y :: .long x :: r ∧ f x y r = some o := by
  unfold pm_l2 at h
  split at h
  · exact ⟨_, _, _, rfl, h⟩
  · cases h
theorem pm_li_some {α : Type} {st : List Value} {f : Int64 → Int32 → List Value → Option α} {o : α} (h : pm_li st f = some o) : ∃ x y r, st = .int y :: .long x :: r ∧ f x y r = some o := by
  unfold pm_li at h
  split at h
  · exact ⟨_, _, _, rfl, h⟩
  · cases h
theorem pm_a1_some {α : Type} {st : List Value} {f : Nat → List Value → Option α} {o : α} (h : pm_a1 st f = some o) : ∃ x r, st = .ref x :: r ∧ f x r = some o := by
  unfold pm_a1 at h
  split at h
  · exact ⟨_, _, rfl, h⟩
  · cases h
theorem pm_ai_some {α : Type} {st : List Value} {f : Nat → Int32 → List Value → Option α} {o : α} (h : pm_ai st f = some o) : ∃ x i r, st = .int i :: .ref x :: r ∧ f x i r = some o := by
  unfold pm_ai at h
  split at h
  · exact ⟨_, _, _, rfl, h⟩
  · cases h
theorem pm_j_some {pc : Nat} {off : Int} {f : Nat → pm_R} {o} (h : pm_j pc off f = some o) : ∃ t : Nat, (pc : Int) + off = (t : Int) ∧ f t = some o := by
  unfold pm_j at h
  split at h
  · exact ⟨_, (Int.toNat_of_nonneg (by assumption)).symm, h⟩
  · cases h
theorem pm_bind_some {α β : Type} {x : Option α} {f : α → Option β} {o : β} (h : x.bind f = some o) : ∃ y, x = some y ∧ f y = some o := Option.bind_eq_some_iff.mp h
-- locals
def pm_lok (nL : Nat) (ls : Array Slot) (lv : pm_L) : Prop := ls.size = lv.length ∧ lv_wf ls ∧ (∀ (i : Nat) (v : Value), lv[i]? = some (some v) → ls[i]? = some (.val v)) ∧ lv.length = nL
def pm_pairs (lv : pm_L) : List (Nat × Value) := lv.zipIdx.filterMap (fun q => q.1.map (fun v => (q.2, v)))
theorem pm_pairs_mem {lv : pm_L} {i : Nat} {v : Value} : (i, v) ∈ pm_pairs lv ↔ lv[i]? = some (some v) := by
  unfold pm_pairs
  rw [List.mem_filterMap]
  constructor
  · rintro ⟨⟨o, k⟩, hm, he⟩
    have hk := List.mk_mem_zipIdx_iff_getElem?.mp hm
    cases o with
    | none => simp at he
    | some w =>
      simp at he
      obtain ⟨rfl, rfl⟩ := he
      exact hk
  · intro hk
    exact ⟨(some v, i), List.mk_mem_zipIdx_iff_getElem?.mpr hk, rfl⟩
theorem pm_lok.has {nL : Nat} {ls : Array Slot} {lv : pm_L} (h : pm_lok nL ls lv) : lv_has ls lv.length (pm_pairs lv) := ⟨h.1, h.2.1, fun q hq => h.2.2.1 q.1 q.2 (pm_pairs_mem.mp hq)⟩
theorem pm_c_some {x : Option Value} {w : Value} (h : pm_c x = some w) : x = some w ∧ ¬ w.category = 2 := by
  unfold pm_c at h
  split at h
  · cases h
  · cases h
  · rename_i h1 h2
    refine ⟨h, fun hc => ?_⟩
    cases w <;> simp [Value.category] at hc
    · exact h1 _ h
    · exact h2 _ h
theorem pm_clr_get {lv : pm_L} {k i : Nat} {w : Value} (h : (pm_clr lv k)[i]? = some (some w)) : lv[i]? = some (some w) ∧ ¬ (i + 1 = k ∧ w.category = 2) := by
  cases k with
  | zero => exact ⟨h, fun q => by omega⟩
  | succ n =>
    rw [pm_clr, List.getElem?_modify] at h
    by_cases hn : n = i
    · subst hn
      cases hv : lv[n]? with
      | none => rw [hv] at h; simp at h
      | some x =>
        rw [hv] at h
        simp at h
        have h2 := pm_c_some h
        exact ⟨by rw [h2.1], fun q => h2.2 q.2⟩
    · cases hv : lv[i]? with
      | none => rw [hv] at h; simp at h
      | some x =>
        rw [hv] at h
        simp [hn] at h
        exact ⟨by rw [h], fun q => hn (by omega)⟩
theorem pm_clr_len (lv : pm_L) (k : Nat) : (pm_clr lv k).length = lv.length := by
  cases k <;> simp [pm_clr]
theorem pm_lok.put1 {ls' : Array Slot} {lv : pm_L} {k : Nat} {v : Value} (h : lv_has ls' lv.length ((k, v) :: (pm_pairs lv).filter (fun q => !(q.1 == k) && !(q.1 + 1 == k && q.2.category == 2)))) (hk : k < lv.length) {nL : Nat} (hn : lv.length = nL) : pm_lok nL ls' (pm_put1 lv k v) := by
  refine ⟨by rw [h.1]; simp [pm_put1, pm_clr_len], h.2.1, fun i w hi => ?_, by rw [← hn]; simp [pm_put1, pm_clr_len]⟩
  unfold pm_put1 at hi
  by_cases hik : i = k
  · subst hik
    rw [List.getElem?_set_self (by rw [pm_clr_len]; exact hk)] at hi
    cases hi
    exact h.2.2 (i, v) List.mem_cons_self
  · rw [List.getElem?_set_ne (Ne.symm hik)] at hi
    obtain ⟨h1, h2⟩ := pm_clr_get hi
    refine h.2.2 (i, w) (List.mem_cons_of_mem _ (List.mem_filter.mpr ⟨pm_pairs_mem.mpr h1, ?_⟩))
    simp [hik]
    exact Decidable.not_and_iff_or_not.mp h2
theorem pm_lok.put2 {ls' : Array Slot} {lv : pm_L} {k : Nat} {v : Value} (h : lv_has ls' lv.length ((k, v) :: (pm_pairs lv).filter (fun q => !(q.1 == k) && (!(q.1 == k + 1) && !(q.1 + 1 == k && q.2.category == 2))))) (hk : k + 1 < lv.length) {nL : Nat} (hn : lv.length = nL) : pm_lok nL ls' (pm_put2 lv k v) := by
  refine ⟨by rw [h.1]; simp [pm_put2, pm_clr_len], h.2.1, fun i w hi => ?_, by rw [← hn]; simp [pm_put2, pm_clr_len]⟩
  unfold pm_put2 at hi
  by_cases hik1 : i = k + 1
  · subst hik1
    rw [List.getElem?_set_self (by rw [List.length_set, pm_clr_len]; exact hk)] at hi
    cases hi
  · rw [List.getElem?_set_ne (Ne.symm hik1)] at hi
    by_cases hik : i = k
    · subst hik
      rw [List.getElem?_set_self (by rw [pm_clr_len]; omega)] at hi
      cases hi
      exact h.2.2 (i, v) List.mem_cons_self
    · rw [List.getElem?_set_ne (Ne.symm hik)] at hi
      obtain ⟨h1, h2⟩ := pm_clr_get hi
      refine h.2.2 (i, w) (List.mem_cons_of_mem _ (List.mem_filter.mpr ⟨pm_pairs_mem.mpr h1, ?_⟩))
      simp [hik, hik1]
      exact Decidable.not_and_iff_or_not.mp h2
theorem pm_slots_len (vs : List Value) : (pm_slots vs).length = (lg_sl vs).length := by
  induction vs with
  | nil => rfl
  | cons v vs ih =>
    cases v <;> simp [pm_slots, lg_sl, Value.category] at ih ⊢ <;> exact ih
theorem pm_args_mem {vs : List Value} {i : Nat} {v : Value} : ∀ k, (pm_slots vs)[i]? = some (some v) → (k + i, v) ∈ lv_args k vs := by
  induction vs generalizing i with
  | nil => intro k h; simp [pm_slots] at h
  | cons w vs ih =>
    intro k h
    cases w with
    | long x =>
      simp only [pm_slots] at h
      simp only [lv_args, Value.category, if_true]
      match i, h with
      | 0, h => simp at h; subst h; exact List.mem_cons_self
      | 1, h => simp at h
      | i + 2, h =>
        have := ih (k + 2) (by simpa using h)
        rw [show k + (i + 2) = k + 2 + i by omega]
        exact List.mem_cons_of_mem _ this
    | double x =>
      simp only [pm_slots] at h
      simp only [lv_args, Value.category, if_true]
      match i, h with
      | 0, h => simp at h; subst h; exact List.mem_cons_self
      | 1, h => simp at h
      | i + 2, h =>
        have := ih (k + 2) (by simpa using h)
        rw [show k + (i + 2) = k + 2 + i by omega]
        exact List.mem_cons_of_mem _ this
    | _ =>
      simp only [pm_slots] at h
      simp only [lv_args, Value.category, if_neg (show ¬ (1 : Nat) = 2 by decide)]
      match i, h with
      | 0, h => simp at h; subst h; exact List.mem_cons_self
      | i + 1, h =>
        have := ih (k + 1) (by simpa using h)
        rw [show k + (i + 1) = k + 1 + i by omega]
        exact List.mem_cons_of_mem _ this
theorem pm_lok_entry {vs : List Value} {n : Nat} (hn : (pm_slots vs).length ≤ n) : pm_lok n ((lg_sl vs ++ List.replicate (n - (lg_sl vs).length) Slot.unset).toArray) (pm_ent n vs) := by
  have hl := lv_entry vs (n := n) (by rw [← pm_slots_len]; exact hn)
  refine ⟨by rw [hl.1]; simp [pm_ent]; omega, hl.2.1, fun i v hi => ?_, by simp [pm_ent]; omega⟩
  unfold pm_ent at hi
  by_cases hik : i < (pm_slots vs).length
  · rw [List.getElem?_append_left hik] at hi
    have := pm_args_mem 0 hi
    rw [Nat.zero_add] at this
    exact hl.2.2 (i, v) this
  · rw [List.getElem?_append_right (by omega)] at hi
    have := List.eq_of_mem_replicate (List.mem_of_getElem? hi)
    cases this
-- the heap's picture
abbrev pm_e (cA : Nat → ClassId) (e : pm_E) : va_E := match e with
  | .inl q => .inl (cA q.1, q.2)
  | .inr q => .inr q
def pm_Rp (D : va_G) (cA : Nat → ClassId) (B : Nat) (X : pm_X) (s : State) (h : pm_H) (H : Heap) : Prop :=
  H.size = B + h.length ∧ (∀ (i : Nat) (e : pm_E), h[i]? = some e → va_at D pm_cls (B + i, pm_e cA e) H) ∧ va_X X.1 X.2.1 X.2.2 s H ∧ X.1 < B ∧ ∀ q : Nat, q < B → H[q]? = s.heap[q]?
theorem pm_at_some {B : Nat} {h : pm_H} {a : Nat} {e : pm_E} (q : pm_at B h a = some e) : B ≤ a ∧ h[a - B]? = some e := by
  unfold pm_at at q
  split at q
  · cases q
  · exact ⟨by omega, q⟩
theorem pm_Rp.at {D : va_G} {cA : Nat → ClassId} {B : Nat} {X : pm_X} {s : State} {h : pm_H} {H : Heap} {a : Nat} {e : pm_E} (r : pm_Rp D cA B X s h H) (q : pm_at B h a = some e) : va_at D pm_cls (a, pm_e cA e) H := by
  obtain ⟨q1, q2⟩ := pm_at_some q
  have := r.2.1 _ _ q2
  rw [show B + (a - B) = a by omega] at this
  exact this
theorem pm_Rp.set {D : va_G} {cA : Nat → ClassId} {B : Nat} {X : pm_X} {s : State} {h : pm_H} {H H1 : Heap} {a : Nat} {e e0 : pm_E} (r : pm_Rp D cA B X s h H) (q : pm_at B h a = some e0) (ha : va_at D pm_cls (a, pm_e cA e) H1) (hz : H1.size = H.size) (ho : ∀ q : Nat, q ≠ a → H1[q]? = H[q]?) : pm_Rp D cA B X s (pm_set B h a e) H1 := by
  obtain ⟨q1, q2⟩ := pm_at_some q
  obtain ⟨r1, r2, r3, r4, r5⟩ := r
  have hlt : a - B < h.length := (List.getElem?_eq_some_iff.mp q2).1
  refine ⟨by rw [hz, r1]; simp [pm_set], fun i x hi => ?_, r3.kept (ho _ (by omega)), r4, fun q hq => by rw [ho q (by omega)]; exact r5 q hq⟩
  unfold pm_set at hi
  by_cases hia : i = a - B
  · subst hia
    rw [List.getElem?_set_self hlt] at hi
    cases hi
    rw [show B + (a - B) = a by omega]
    exact ha
  · rw [List.getElem?_set_ne (Ne.symm hia)] at hi
    exact (r2 i x hi).kept (ho _ (by omega))
theorem pm_Rp.push {D : va_G} {cA : Nat → ClassId} {B : Nat} {X : pm_X} {s : State} {h : pm_H} {H H1 : Heap} {e : pm_E} (r : pm_Rp D cA B X s h H) (ha : va_at D pm_cls (H.size, pm_e cA e) H1) (hz : H1.size = H.size + 1) (ho : ∀ q : Nat, q < H.size → H1[q]? = H[q]?) : pm_Rp D cA B X s (h ++ [e]) H1 := by
  obtain ⟨r1, r2, r3, r4, r5⟩ := r
  refine ⟨by rw [hz, r1]; simp; omega, fun i x hi => ?_, r3.kept (ho _ (by omega)), r4, fun q hq => by rw [ho q (by omega)]; exact r5 q hq⟩
  by_cases hl : i < h.length
  · rw [List.getElem?_append_left hl] at hi
    exact (r2 i x hi).kept (ho _ (by omega))
  · rw [List.getElem?_append_right (by omega)] at hi
    have hz1 : i - h.length < 1 := (List.getElem?_eq_some_iff.mp hi).1
    rw [show i - h.length = 0 by omega] at hi
    cases hi
    rw [show B + i = H.size by omega]
    exact ha
theorem pm_sl_set0 {e e0 : pm_E} (hz : pm_sz e = pm_sz e0) : ∀ (h : pm_H) (i : Nat), h[i]? = some e0 → ((h.set i e).map pm_sz).sum = (h.map pm_sz).sum := by
  intro h
  induction h with
  | nil => intro i q; simp at q
  | cons x h ih =>
    intro i q
    cases i with
    | zero => simp at q; subst q; simp [hz]
    | succ i =>
      rw [List.getElem?_cons_succ] at q
      rw [List.set_cons_succ, List.map_cons, List.map_cons, List.sum_cons, List.sum_cons, ih i q]
theorem pm_sl_set {B : Nat} {h : pm_H} {a : Nat} {e e0 : pm_E} (q : pm_at B h a = some e0) (hz : pm_sz e = pm_sz e0) : pm_sl (pm_set B h a e) = pm_sl h := pm_sl_set0 hz h _ (pm_at_some q).2
theorem pm_sl_push (h : pm_H) (e : pm_E) : pm_sl (h ++ [e]) = pm_sl h + pm_sz e := by simp [pm_sl]
theorem pm_one {D : va_G} {cl : List vw_C} {a : Nat} {H : Heap} {x : va_E} (h : va_at D cl (a, x) H) : va_P D cl [(a, x)] H := by
  intro k q hk
  cases k with
  | zero => simp at hk; subst hk; exact h
  | succ k => simp at hk
theorem pm_ixin {i : Int32} {n : Nat} (h : pm_ix i n = true) : vp_in i n := by
  unfold pm_ix at h
  simp only [Bool.and_eq_true, decide_eq_true_eq] at h
  exact vp_in_iff.mpr h
section PMW
variable {p : Program} {l : Launch} {e : Env} {R : Room} {s : State} {m : MethodId} {args : Array Value} {below : List Frame} {meth : Method} {c : Code} {H : Heap} {locs : List Loc} {cells slots : Nat} {Q : State → Prop}
variable {cc : ByteArray} {pc : Nat} {ls : Array Slot} {rest : List Value} {D : va_G} {cl : List vw_C} {a : Nat} {tys : List (ClassId × FieldType)}
set_option maxHeartbeats 1000000 in
/-- putfield, its heap of the same size: a plain field, a nest mate's, a final one in its constructor -/
theorem pm_rput (hexec : p.tables.exec = Jvm.exec) (hb : c.code = cc) {own C : String} {T : u_T} {N ci index : Nat} {Ts : List Cond} (hts : ∀ w ∈ Ts, w.before args s = true) (hin : ∀ w ∈ u_ws C T N, w ∈ Ts) (ty0 : Nat → FieldType) (hty : ∀ k, k < N → parseFieldDescriptor (T k).2.2.1 = some (ty0 k)) (hnm : ∀ a, a < N → ∀ b, b < N → a ≠ b → (T a).2.1 ≠ (T b).2.1) (hown : s.vm.findClass own = some m.cls) (hK : va_K D cl tys s) {fs : List Value} (ha : va_at D cl (a, .inr (ci, fs)) H) (hc : cl[ci]? = some (C, T, N)) {k : Nat} (hk : k < N)
    (hlink : ((Cond.fieldLink own index (T k).1 (T k).2.1 (T k).2.2.1).before args s = true ∧ ((T k).2.2.2 = false ∨ ((T k).2.2.2 = true ∧ meth.name = "<init>" ∧ (T k).1 = own))) ∨ ((T k).2.2.2 = false ∧ ∃ host, (Cond.fieldLinkNest own index (T k).1 (T k).2.1 (T k).2.2.1 host).before args s = true))
    {v : Value} (hn : narrow (ty0 k) v = v) (hfit : fits (ty0 k) v = true) (hl : k < fs.length) (hdg : decode cc pc = .ok (.putfield index, 3))
    (kk : ∀ (H1 : Heap) (x : Nat), va_at D cl (a, .inr (ci, fs.set k v)) H1 → H1.size = H.size → (∀ q : Nat, q ≠ a → H1[q]? = H[q]?) → W p l e R s m args below meth c H1 (locs ++ [⟨a, x⟩]) cells slots Q (F0 m (pc + 3) ls rest)) : W p l e R s m args below meth c H locs cells slots Q (F0 m pc ls (v :: .ref a :: rest)) := by
  have hap := va_apart (own := own) hts hin ty0 hty hnm hK hc
  obtain ⟨r, h1, cell, q1, q2, q3, q4⟩ := ha
  have hr : r = (C, T, N) := Option.some.inj (h1.symm.trans hc)
  subst hr
  obtain ⟨hS, hfc, kC, hkC, hkind⟩ := hK.1 ci _ hc
  obtain ⟨cf, kf, fi, f, hi, hsl⟩ := hS k hk
  have hlay := hts _ (hin _ (u_in_lay hk))
  unfold u_lay at hlay
  have hst := (u_facts hfc hkC (u_lays hts hin hk) hi).1
  have hd := hty k hk
  have fin : ∀ H' : Heap, H'[a]? = some (cell.setSlot f.slot v) → H'.size = H.size → (∀ q, q ≠ a → H'[q]? = H[q]?) → W p l e R s m args below meth c H' (locs ++ [⟨a, f.slot⟩]) cells slots Q (F0 m (pc + 3) ls rest) := by
    intro H' e1 e2 e3
    rw [hsl] at e1 ⊢
    exact kk H' _ ⟨_, hc, t_OB.to (V := updV (vp_V fs) k v) ⟨_, e1, q2, q3, t_set q4 hap hk v⟩ (fun j _ => vp_updV_set hl v j)⟩ e2 e3
  rcases hlink with ⟨hlink, hfin | ⟨hfin, hin2, hdecl⟩⟩ | ⟨hfin, host, hlink⟩
  · rw [if_neg (by rw [hfin]; decide)] at hlay
    have h6 := u_store hfc hkC hkind hlay hi hd hn hfit
    exact W.putK hexec hb (f := f) ⟨hown, hlink, ⟨_, _, _, hi⟩, hst⟩ (by rw [q2]; exact h6) q1 q3 (by rw [hsl]; exact k2_hasslot (q4 k hk)) rfl rfl hdg fin
  · rw [if_pos hfin] at hlay
    have hcf : m.cls = cf := by
      obtain ⟨_, _, c', _, _, _, -, -, hf', -, -, -, hown2, -⟩ := Cond.laysFinal_spec hlay
      have e1 : c' = cf := by have := hi.symm.trans hf'; simp at this; exact this.1.symm
      rw [hdecl] at hown2
      rw [← e1]; exact Option.some.inj (hown.symm.trans hown2)
    have h6 := u_fits hfc hkC hkind (Or.inr hlay) hi hd hn hfit
    exact W.putFinK hexec hb hown hlink hi hst hcf hin2 (by rw [q2]; exact h6) q1 q3 (by rw [hsl]; exact k2_hasslot (q4 k hk)) rfl rfl hdg fin
  · rw [if_neg (by rw [hfin]; decide)] at hlay
    have h6 := u_store hfc hkC hkind hlay hi hd hn hfit
    exact va_WputK hexec hb (f := f) hown hlink hi hst (by rw [q2]; exact h6) q1 q3 (by rw [hsl]; exact k2_hasslot (q4 k hk)) rfl rfl hdg fin
end PMW

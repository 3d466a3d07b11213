/-! THE REAL MACHINE FOLLOWS THE PURE ONE, d: calls, returns, the whole run of a method. -/
theorem pm_args_some {st : List Value} : ∀ (n : Nat) (as rest : List Value), pm_args st n = some (as, rest) → st = as.reverse ++ rest ∧ as.length = n
  | 0, as, rest, h => by cases h; exact ⟨rfl, rfl⟩
  | n + 1, as, rest, h => by
    obtain ⟨⟨as0, r0⟩, h1, h2⟩ := pm_bind_some h
    obtain ⟨h3, h4⟩ := pm_args_some n as0 r0 h1
    cases r0 with
    | nil => cases h2
    | cons v r =>
      cases h2
      refine ⟨?_, by rw [List.length_cons, h4]⟩
      rw [h3, List.reverse_cons, List.append_assoc]
      rfl
set_option maxHeartbeats 2000000 in
theorem pm_st1_grow {B : Nat} {X : pm_X} {j : Nat} {i : Instr} {len pc : Nat} {lv : pm_L} {st : List Value} {h : pm_H} {o : Nat × pm_L × List Value × pm_H} (hs : pm_st1 B X j i len pc lv st h = some o) : h.length ≤ o.2.2.2.length ∧ pm_sl h ≤ pm_sl o.2.2.2 := by
  have same : ∀ {a : Nat} {b : pm_L} {c : List Value}, some (a, b, c, h) = some o → h.length ≤ o.2.2.2.length ∧ pm_sl h ≤ pm_sl o.2.2.2 := by
    intro a b c q
    cases q
    exact ⟨Nat.le_refl _, Nat.le_refl _⟩
  have setd : ∀ {a : Nat} {b : pm_L} {c : List Value} {x : Nat} {e e0 : pm_E}, some (a, b, c, pm_set B h x e) = some o → pm_at B h x = some e0 → pm_sz e = pm_sz e0 → h.length ≤ o.2.2.2.length ∧ pm_sl h ≤ pm_sl o.2.2.2 := by
    intro a b c x e e0 q q1 q2
    cases q
    exact ⟨by simp [pm_set], by rw [pm_sl_set q1 q2]; exact Nat.le_refl _⟩
  have push : ∀ {a : Nat} {b : pm_L} {c : List Value} {e : pm_E}, some (a, b, c, h ++ [e]) = some o → h.length ≤ o.2.2.2.length ∧ pm_sl h ≤ pm_sl o.2.2.2 := by
    intro a b c e q
    cases q
    exact ⟨by simp, by rw [pm_sl_push]; exact Nat.le_add_right _ _⟩
  cases i with
  | getfield k =>
    simp only [pm_st1] at hs
    split at hs
    · have hq := pm_a1_some hs; clear hs; obtain ⟨a, r, rfl, hs⟩ := hq
      obtain ⟨v, q1, hs⟩ := pm_bind_some hs
      exact same hs
    · cases hs
  | tableswitch d lo hi offs =>
    have hq := pm_i1_some hs; clear hs; obtain ⟨x, r, rfl, hs⟩ := hq
    split at hs
    · obtain ⟨t, ht, hs⟩ := pm_j_some hs
      exact same hs
    · split at hs
      · obtain ⟨t, ht, hs⟩ := pm_j_some hs
        exact same hs
      · cases hs
  | lookupswitch d ps =>
    have hq := pm_i1_some hs; clear hs; obtain ⟨x, r, rfl, hs⟩ := hq
    split at hs
    · obtain ⟨t, ht, hs⟩ := pm_j_some hs
      exact same hs
    · cases hs
  | putfield k =>
    simp only [pm_st1] at hs
    split at hs
    · obtain ⟨e1, q1, hs⟩ := pm_bind_some hs
      obtain ⟨fs, q2, q3, q4, q5, rfl⟩ := pm_pf_some q1
      exact setd hs q2 (by simp [pm_sz])
    · cases hs
  | iastore =>
    simp only [pm_st1] at hs
    split at hs
    · obtain ⟨e1, q1, hs⟩ := pm_bind_some hs
      obtain ⟨n, f, q2, q3, q4, rfl⟩ := pm_sti_some q1
      exact setd hs q2 rfl
    · cases hs
  | castore =>
    simp only [pm_st1] at hs
    split at hs
    · obtain ⟨e1, q1, hs⟩ := pm_bind_some hs
      obtain ⟨n, f, q2, q3, q4, rfl⟩ := pm_sti_some q1
      exact setd hs q2 rfl
    · cases hs
  | bastore =>
    simp only [pm_st1] at hs
    split at hs
    · obtain ⟨e1, q1, hs⟩ := pm_bind_some hs
      obtain ⟨n, f, q2, q3, q4, rfl⟩ := pm_sti_some q1
      exact setd hs q2 rfl
    · cases hs
  | lastore =>
    simp only [pm_st1] at hs
    split at hs
    · obtain ⟨e1, q1, hs⟩ := pm_bind_some hs
      obtain ⟨n, f, q2, q3, q4, rfl⟩ := pm_stl_some q1
      exact setd hs q2 rfl
    · cases hs
  | aastore =>
    simp only [pm_st1] at hs
    split at hs
    · obtain ⟨e1, q1, hs⟩ := pm_bind_some hs
      obtain ⟨k, n, f, fs, q2, q5, q3, q4, rfl⟩ := pm_sta_some q1
      exact setd hs q2 rfl
    · cases hs
  | new k =>
    simp only [pm_st1] at hs
    split at hs
    · exact push hs
    · cases hs
  | newarray t =>
    simp only [pm_st1] at hs
    split at hs
    · have hq := pm_i1_some hs; clear hs; obtain ⟨n, r, rfl, hs⟩ := hq
      split at hs
      · exact push hs
      · cases hs
    · cases hs
  | invokestatic k =>
    simp only [pm_st1] at hs
    split at hs
    · have hq := pm_i1_some hs; clear hs; obtain ⟨x, r, rfl, hs⟩ := hq
      split at hs
      · exact same hs
      · cases hs
    · have hq := pm_l1_some hs; clear hs; obtain ⟨x, r, rfl, hs⟩ := hq
      split at hs
      · exact same hs
      · cases hs
    · have hq := pm_i2_some hs; clear hs; obtain ⟨x, y, r, rfl, hs⟩ := hq
      split at hs
      · exact same hs
      · cases hs
    · have hq := pm_i2_some hs; clear hs; obtain ⟨x, y, r, rfl, hs⟩ := hq
      split at hs
      · exact same hs
      · cases hs
    · cases hs
  | anewarray k =>
    simp only [pm_st1] at hs
    split at hs
    · have hq := pm_i1_some hs; clear hs; obtain ⟨n, r, rfl, hs⟩ := hq
      split at hs
      · exact push hs
      · cases hs
    · cases hs
  | _ =>
    first
    | exact same hs
    | (cases hs; done)
    | (have hq := pm_i1_some hs; clear hs; obtain ⟨x, r, rfl, hs⟩ := hq; first | exact same hs | (obtain ⟨t, ht, hs⟩ := pm_j_some hs; exact same hs) | (split at hs <;> first | exact same hs | (cases hs; done)))
    | (have hq := pm_i2_some hs; clear hs; obtain ⟨x, y, r, rfl, hs⟩ := hq; first | exact same hs | (obtain ⟨t, ht, hs⟩ := pm_j_some hs; exact same hs) | (split at hs <;> first | exact same hs | (cases hs; done)))
    | (have hq := pm_l1_some hs; clear hs; obtain ⟨x, r, rfl, hs⟩ := hq; first | exact same hs | (split at hs <;> first | exact same hs | (cases hs; done)))
    | (have hq := pm_l2_some hs; clear hs; obtain ⟨x, y, r, rfl, hs⟩ := hq; first | exact same hs | (split at hs <;> first | exact same hs | (cases hs; done)))
    | (have hq := pm_li_some hs; clear hs; obtain ⟨x, y, r, rfl, hs⟩ := hq; exact same hs)
    | (have hq := pm_a1_some hs; clear hs; obtain ⟨a, r, rfl, hs⟩ := hq; cases hlj : Nat.beq j pm_lj <;> rw [hlj] at hs <;> dsimp only [cond_true, cond_false] at hs <;> first | (obtain ⟨v, q1, hs⟩ := pm_bind_some hs; exact same hs) | (split at hs <;> first | exact same hs | (cases hs; done)))
    | (have hq := pm_ai_some hs; clear hs; obtain ⟨a, i, r, rfl, hs⟩ := hq; first | (obtain ⟨v, q1, hs⟩ := pm_bind_some hs; exact same hs) | (cases hlj : Nat.beq j pm_lj <;> rw [hlj] at hs <;> dsimp only [cond_true, cond_false] at hs <;> first | (obtain ⟨v, q1, hs⟩ := pm_bind_some hs; exact same hs) | (split at hs <;> first | exact same hs | (cases hs; done))))
    | (simp only [pm_st1] at hs; obtain ⟨t, ht, hs⟩ := pm_j_some hs; exact same hs)
    | (have hq := pm_i1_some hs; clear hs; obtain ⟨x, r, rfl, hs⟩ := hq; split at hs; · (obtain ⟨t, ht, hs⟩ := pm_j_some hs; exact same hs); · (split at hs; · (obtain ⟨t, ht, hs⟩ := pm_j_some hs; exact same hs); · (cases hs; done)))
    | (have hq := pm_i1_some hs; clear hs; obtain ⟨x, r, rfl, hs⟩ := hq; split at hs; · (obtain ⟨t, ht, hs⟩ := pm_j_some hs; exact same hs); · (cases hs; done))
    | (simp only [pm_st1] at hs; split at hs; · (have hq := pm_a1_some hs; clear hs; obtain ⟨a, r, rfl, hs⟩ := hq; obtain ⟨v, q1, hs⟩ := pm_bind_some hs; exact same hs); · (cases hs; done))
    | (simp only [pm_st1] at hs; split at hs <;> first | exact same hs | (cases hs; done) | (obtain ⟨t, ht, hs⟩ := pm_j_some hs; exact same hs) | (split at hs <;> first | exact same hs | (cases hs; done)))
theorem pm_grow {B : Nat} {X : pm_X} : ∀ (n j pc : Nat) (lv : pm_L) (st : List Value) (h : pm_H) (o : Option Value × pm_H), pm_run B X n j pc lv st h = some o → h.length ≤ o.2.length ∧ pm_sl h ≤ pm_sl o.2 := by
  intro n
  induction n with
  | zero => intro j pc lv st h o e; simp [pm_run] at e
  | succ n ih =>
    intro j pc lv st h o e
    rw [pm_run] at e
    obtain ⟨q, hc, e⟩ := pm_bind_some e
    split at e
    · cases e
      exact ⟨Nat.le_refl _, Nat.le_refl _⟩
    · split at e
      · obtain ⟨c, hl, e⟩ := pm_bind_some e
        obtain ⟨o1, h1, e⟩ := pm_bind_some e
        have a1 := ih _ _ _ _ _ _ h1
        have a2 := ih _ _ _ _ _ _ e
        exact ⟨Nat.le_trans a1.1 a2.1, Nat.le_trans a1.2 a2.2⟩
      · obtain ⟨o1, h1, e⟩ := pm_bind_some e
        have a1 := pm_st1_grow h1
        have a2 := ih _ _ _ _ _ _ e
        exact ⟨Nat.le_trans a1.1 a2.1, Nat.le_trans a1.2 a2.2⟩
theorem pm_V_t {j y : Nat} {i : Instr} (h : pm_tg j i = some y) : pm_mok y = true := by
  have key : ∀ {k n : Nat}, ((pm_iv j k).bind fun y => if pm_kd y = n then some y else none) = some y → pm_mok y = true := by
    intro k n q
    obtain ⟨y0, h1, h2⟩ := pm_bind_some q
    split at h2
    · cases h2
      exact pm_V_iv h1
    · cases h2
  cases i <;> first | (cases h; done) | exact key h
def pm_St (D : va_G) (cA : Nat → ClassId) (B : Nat) (X : pm_X) (h : pm_H) (U : State) : Prop :=
  pm_Rp D cA B X U h U.heap ∧ (∀ w ∈ pm_nws, va_Nw w U) ∧ va_K D pm_cls [] U ∧ (∀ t, pm_tok t = true → ArrOfT U (cA t) (pm_ty t) ∧ va_RA U (cA t) (pm_ty t)) ∧ (∀ k, pm_tok (k + 4) = true → va_AO (pm_oc k) U)
def pm_Pc (D : va_G) (cA : Nat → ClassId) (B : Nat) (X : pm_X) (as : List Value) (h : pm_H) : Array Value → State → Prop := fun v U => v = as.toArray ∧ pm_St D cA B X h U
def pm_Qc (D : va_G) (cA : Nat → ClassId) (B : Nat) (r : Option Value) (h1 : pm_H) : Array Value → State → Outcome → State → Prop := fun _ st o t =>
  o = .returned r ∧ t.heap.size = B + h1.length ∧ (∀ (i : Nat) (e : pm_E), h1[i]? = some e → va_at D pm_cls (B + i, pm_e cA e) t.heap) ∧ ∀ q : Nat, q < B → t.heap[q]? = st.heap[q]?
abbrev pm_wy (y : Nat) : List Cond := Cond.code (pm_nm y) (pm_by y) (pm_ml y) (pm_rty y) :: pm_ws
abbrev pm_rm (y mc ms : Nat) : Room := { frames := pm_dep y + 1, cells := mc, slots := ms, locals := pm_loc y }
/-- what the whole run says: the statement that goes by induction -/
def pm_Snd (l : Launch) (D : va_G) (cA : Nat → ClassId) (B : Nat) (X : pm_X) (n : Nat) : Prop := ∀ (j pc : Nat) (lv : pm_L) (st : List Value) (h : pm_H) (r : Option Value) (h' : pm_H), pm_run B X n j pc lv st h = some (r, h') →
  ∀ (p : Program) (e : Env) (R : Room) (s : State) (m : MethodId) (args : Array Value) (below : List Frame) (meth : Method) (c : Code) (H : Heap) (locs : List Loc) (cells slots : Nat) (Q : State → Prop) (ls : Array Slot) (n0 s0 : Nat),
  pm_C D cA p R s m args meth c j → pm_Bes D cA B X s (pm_ml j) n0 s0 lv h ls H locs cells slots → h'.length ≤ n0 + R.cells → pm_sl h' ≤ s0 + R.slots →
  (∀ (pc' : Nat) (i : Instr) (st' : List Value) (ls' : Array Slot) (H' : Heap) (locs' : List Loc) (cells' slots' : Nat), decode (pm_by j) pc' = .ok (i, 1) → pm_rt j i st' = some r → pm_Rp D cA B X s h' H' → (∀ q ∈ locs', B ≤ q.base) → n0 + cells' = h'.length → s0 + slots' = pm_sl h' → W p l e R s m args below meth c H' locs' cells' slots' Q (F0 m pc' ls' st')) →
  W p l e R s m args below meth c H locs cells slots Q (F0 m pc ls st)
theorem pm_rt_len {j : Nat} {i : Instr} {st : List Value} {r : Option Value} (h : pm_rt j i st = some r) : pm_ln i = 1 := by
  cases i <;> first | rfl | (cases h; done)
theorem pm_nw_on {w : Cond} (hw : w ∈ pm_nws) : w.onTables = true ∧ ∀ {s U : State}, s.WarmedH U.vm → va_Nw w s → va_Nw w U := by
  have h := (List.mem_filter.mp hw).2
  cases w <;> first | (cases h; done) | exact ⟨rfl, fun hW hZ => va_Nw.warmF hW hZ⟩ | exact ⟨rfl, fun hW hZ => va_Nw.warmM hW hZ⟩
theorem pm_blind (D : va_G) (cA : Nat → ClassId) (B : Nat) (X : pm_X) (as : List Value) (h : pm_H) : FrameBlind (pm_Pc D cA B X as h) := by
  intro a U g mk hq
  obtain ⟨h1, ⟨r1, r2, r3, r4, r5⟩, h3, h4, h5, h6⟩ := hq
  exact ⟨h1, ⟨r1, r2, va_X.moved (u := U) (U := U.calling g mk a) (Vm.Alike.refl U.vm) r3, r4, r5⟩, fun w hw => va_Nw.same (u := U) (U := U.calling g mk a) (pm_nw_on hw).1 rfl (h3 w hw), va_K.moved (u := U) (U := U.calling g mk a) (Vm.Alike.refl U.vm) h4,
    fun t ht => ⟨arrOfT_moved (u := U) (E := U.calling g mk a) (Vm.Alike.refl U.vm) (h5 t ht).1, va_RA.moved (u := U) (U := U.calling g mk a) (Vm.Alike.refl U.vm) (h5 t ht).2⟩, fun k hk => va_AO.moved (u := U) (U := U.calling g mk a) (Vm.Alike.refl U.vm) (h6 k hk)⟩
set_option maxHeartbeats 1000000 in
theorem pm_met {l : Launch} {D : va_G} {cA : Nat → ClassId} {B : Nat} {X : pm_X} {n y : Nat} {as : List Value} {h h1 : pm_H} {r : Option Value} (ih : pm_Snd l D cA B X n) (hy : pm_mok y = true) (hrun : pm_run B X n y 0 (pm_ent (pm_ml y) as) [] h = some (r, h1)) (hsl : (pm_slots as).length ≤ pm_ml y) :
    Met l (pm_nm y) (pm_wy y) (pm_rm y (h1.length - h.length) (pm_sl h1 - pm_sl h)) (pm_Pc D cA B X as h) (pm_Qc D cA B r h1) (h1.length - h.length) (pm_sl h1 - pm_sl h) (fun q => B ≤ q) := by
  have hg := pm_grow _ _ _ _ _ _ _ hrun
  refine Met.ofW (cc := pm_by y) (maxL := pm_ml y) (ret := pm_rty y) (pm_V_m hy).1 rfl ?_
  intro p e s m args below meth c s₁ B0 hml hv
  obtain ⟨rfl, hRp, hnw, hK, hT, hAO⟩ := hv
  rw [lg_entry_eq]
  have hlocks := B0.notSynchronized
  refine ih y 0 _ [] h r h1 hrun p e _ s m _ below meth c s.heap [] 0 0 _ _ h.length (pm_sl h) ⟨B0.exec, B0.bytes, hml, (by rw [(pm_V_m hy).2.2.2.2.2.2.2.2.2]; exact findClass_of_methodNamed B0.named), fun w hw => atoms_spec (ws := pm_wy y) B0.pre w (List.mem_cons_of_mem _ hw), hnw, fun h2 => by rw [(name_of_methodNamed B0.named B0.method).1]; exact (pm_V_m hy).2.1 h2, Nat.le_refl _, Nat.le_refl _, (pm_V_m hy).2.2.2.2.2.2.2.2.1, hK, hT, hAO⟩
    ⟨pm_lok_entry hsl, hRp, fun q hq => (by cases hq), rfl, rfl⟩ (by show h1.length ≤ h.length + (h1.length - h.length); omega) (by show pm_sl h1 ≤ pm_sl h + (pm_sl h1 - pm_sl h); omega) ?_
  intro pc' i st' ls' H' locs' cells' slots' hd hrt hR2 hloc hc1 hs1
  obtain rfl : cells' = h1.length - h.length := by omega
  obtain rfl : slots' = pm_sl h1 - pm_sl h := by omega
  have hq : ∀ t : State, t.heap = H' → s.WarmedH t.vm → pm_Qc D cA B r h1 as.toArray s (.returned r) t := fun t ht _ => ⟨rfl, by rw [ht]; exact hR2.1, by rw [ht]; exact hR2.2.1, by rw [ht]; exact hR2.2.2.2.2⟩
  have hrr := B0.returns
  have hx := B0.exec
  have hb := B0.bytes
  cases i with
  | return_ =>
    simp only [pm_rt] at hrt
    split at hrt
    · split at hrt
      · rename_i hr0
        cases hrt
        exact W.vret hx hb (hrr.trans hr0) hq hloc hd
      · cases hrt
    · cases hrt
  | ireturn =>
    simp only [pm_rt] at hrt
    split at hrt
    · split at hrt
      · rename_i hr0
        cases hrt
        exact W.iret hx hb (hrr.trans hr0) hq hloc hd
      · rename_i _ hr0
        split at hrt
        · rename_i hn
          cases hrt
          exact W.zret hx hb (hrr.trans hr0) hn.2 hq hloc hd
        · cases hrt
      · cases hrt
    · cases hrt
  | lreturn =>
    simp only [pm_rt] at hrt
    split at hrt
    · split at hrt
      · rename_i hr0
        cases hrt
        exact W.lret hx hb (hrr.trans hr0) hq hloc hd
      · cases hrt
    · cases hrt
  | areturn =>
    simp only [pm_rt] at hrt
    split at hrt
    · split at hrt
      · rename_i hr0
        cases hrt
        exact W.aret hx hb (hrr.trans hr0) (Or.inl ⟨_, rfl⟩) (Or.inr ⟨_, rfl⟩) hq hloc hd
      · rename_i hr0
        cases hrt
        exact W.aret hx hb (hrr.trans hr0) (Or.inr ⟨_, rfl⟩) (Or.inr ⟨_, rfl⟩) hq hloc hd
      · cases hrt
    · split at hrt
      · rename_i hr0
        cases hrt
        exact W.aret hx hb (hrr.trans hr0) (Or.inl ⟨_, rfl⟩) (Or.inl rfl) hq hloc hd
      · rename_i hr0
        cases hrt
        exact W.aret hx hb (hrr.trans hr0) (Or.inr ⟨_, rfl⟩) (Or.inl rfl) hq hloc hd
      · cases hrt
    · cases hrt
  | _ => cases hrt
section PMD
variable {p : Program} {l : Launch} {e : Env} {R : Room} {s : State} {m : MethodId} {args : Array Value} {below : List Frame} {meth : Method} {c : Code} {H : Heap} {locs : List Loc} {cells slots mc ms : Nat} {Q : State → Prop}
variable {pc : Nat} {ls : Array Slot} {D : va_G} {cA : Nat → ClassId} {B : Nat} {rest st0 : List Value} {a : Array Value} {r : Option Value} {h1 : pm_H}
theorem pm_after (hr : va_Run p l e R s m args below meth c H locs cells slots mc ms (F0 m pc ls st0) rest (pm_Qc D cA B r h1 a) (fun q => B ≤ q)) (hloc : ∀ q ∈ locs, B ≤ q.base)
    (kk : ∀ (H1 : Heap) (locs1 : List Loc), H1.size = B + h1.length → (∀ (i : Nat) (e : pm_E), h1[i]? = some e → va_at D pm_cls (B + i, pm_e cA e) H1) → (∀ q : Nat, q < B → H1[q]? = H[q]?) → (∀ q ∈ locs1, B ≤ q.base) → W p l e R s m args below meth c H1 locs1 (cells + mc) (slots + ms) Q (F0 m (pc + 3) ls (r.toList ++ rest))) : W p l e R s m args below meth c H locs cells slots Q (F0 m pc ls st0) := by
  intro T hT X
  obtain ⟨v, st₀, t, T', L, h0, X', hL, e1, e2, ⟨hv, hz, hp, hk⟩, st⟩ := hr T hT X
  cases hv
  rw [h0] at hk
  obtain ⟨t2, a1, b1⟩ := kk T'.heap (locs ++ L) (by rw [e1]; exact hz) (by rw [e1]; exact hp) (fun q h => by rw [e1]; exact hk q h) (fun q hq => by
    rcases List.mem_append.mp hq with h | h
    · exact hloc q h
    · exact hL q h) T' rfl X'
  exact ⟨t2, st t2 a1, b1⟩
end PMD
theorem pm_good {y : Nat} (hy : pm_mok y = true) : GoodIn pm_ws (pm_wy y) := by
  intro w hw
  rcases List.mem_cons.mp hw with rfl | hw
  · exact ⟨(pm_V_m hy).2.2.1, Or.inl rfl⟩
  · exact ⟨hw, good_of_word (List.mem_filter.mp hw).2⟩
theorem pm_rc_v {B : Nat} {h : pm_H} {y : Nat} {as : List Value} (hk : pm_kd y = 1) (hrc : pm_rc B h y as = true) : ∃ a0 ar fs, as = .ref a0 :: ar ∧ pm_at B h a0 = some (.inr (pm_ci y, fs)) := by
  unfold pm_rc at hrc
  rw [hk] at hrc
  cases as with
  | nil => cases hrc
  | cons v ar =>
    cases v with
    | ref a0 =>
      have hrc : (match pm_at B h a0 with
        | some (.inr (c, _)) => c == pm_ci y
        | _ => false) = true := hrc
      split at hrc
      · rename_i c fs hat
        have hc : c = pm_ci y := by simpa using hrc
        subst hc
        exact ⟨a0, ar, fs, rfl, hat⟩
      · cases hrc
    | _ => cases hrc
theorem pm_rc_i {B : Nat} {h : pm_H} {y : Nat} {as : List Value} (hk : pm_kd y = 2) (hrc : pm_rc B h y as = true) : ∃ a0 ar, as = .ref a0 :: ar := by
  unfold pm_rc at hrc
  rw [hk] at hrc
  cases as with
  | nil => cases hrc
  | cons v ar =>
    cases v with
    | ref a0 => exact ⟨a0, ar, rfl⟩
    | _ => cases hrc
set_option maxHeartbeats 1000000 in
theorem pm_sound (l : Launch) (D : va_G) (cA : Nat → ClassId) (B : Nat) (X : pm_X) : ∀ n, pm_Snd l D cA B X n := by
  intro n
  induction n with
  | zero => intro j pc lv st h r h' e; simp [pm_run] at e
  | succ n ih =>
    intro j pc lv st h r h' hrun p e R s m args below meth c H locs cells slots Q ls n0 s0 C b hRc hRs hret
    rw [pm_run] at hrun
    obtain ⟨⟨i, len⟩, hc, hrun⟩ := pm_bind_some hrun
    obtain ⟨hdg, hlen⟩ := pm_V_c hc
    dsimp only at hrun
    split at hrun
    · rename_i r0 hrt
      cases hrun
      have : len = 1 := by rcases hlen with h2 | h2 <;> have := pm_rt_len hrt <;> omega
      subst this
      exact hret pc i st ls H locs cells slots hdg hrt b.2.1 b.2.2.1 b.2.2.2.1 b.2.2.2.2
    · split at hrun
      · rename_i y0 hty
        obtain ⟨⟨y', as', rest'⟩, hcl, hrun⟩ := pm_bind_some hrun
        obtain ⟨⟨r1, h1⟩, hr1, hrun2⟩ := pm_bind_some hrun
        clear hrun
        dsimp only at hr1 hrun2
        have hg1 := pm_grow _ _ _ _ _ _ _ hr1
        have hg2 := pm_grow _ _ _ _ _ _ _ hrun2
        dsimp only at hg1 hg2
        unfold pm_cl at hcl
        obtain ⟨y, hy1, hcl⟩ := pm_bind_some hcl
        obtain ⟨⟨as, rest⟩, hargs, hcl⟩ := pm_bind_some hcl
        split at hcl
        · rename_i hcond
          obtain ⟨rfl, rfl, rfl⟩ : y = y' ∧ as = as' ∧ rest = rest' := by cases hcl; exact ⟨rfl, rfl, rfl⟩
          obtain ⟨hdep, hloc8, hw8, hsl, hrc⟩ := hcond
          dsimp only at hw8 hsl hrc
          obtain ⟨hst, hal⟩ := pm_args_some _ _ _ hargs
          obtain ⟨hx, hb, hml, hown, hts, hnw, hin, hfr, hlo, hlo2, hK, hT, hAO⟩ := id C
          obtain ⟨b1, b2, b3, b4, b5⟩ := b
          have hmok : pm_mok y = true := pm_V_t hy1
          obtain ⟨v1, v2, v3, v4, v5, v6, v7, v8, v9, v10⟩ := pm_V_m hmok
          have hM := pm_met ih hmok hr1 hsl
          have hbl := pm_blind D cA B X as h
          have hPc : ∀ U : State, U.heap = H → s.WarmedH U.vm → pm_Pc D cA B X as h as.toArray U := by
            intro U hU hW
            refine ⟨rfl, ⟨by rw [hU]; exact b2.1, by rw [hU]; exact b2.2.1, by rw [hU]; exact va_X.moved hW.alike b2.2.2.1, b2.2.2.2.1, fun q _ => rfl⟩, fun w hw => (pm_nw_on hw).2 hW (hnw w hw), va_K.moved hW.alike hK, fun t ht => ⟨arrOfT_moved hW.alike (hT t ht).1, (hT t ht).2.moved hW.alike⟩, fun k hk => (hAO k hk).moved hW.alike⟩
          have hlen3 : len = 3 := by
            cases i <;> first | (cases hy1; done) | exact hlen.resolve_left (fun h9 => by cases h9)
          subst hlen3
          have hroom : (pm_rm y (h1.length - h.length) (pm_sl h1 - pm_sl h)).frames + 1 ≤ R.frames ∧ 8 + (pm_ml y + 11) + (pm_rm y (h1.length - h.length) (pm_sl h1 - pm_sl h)).locals ≤ R.locals := by
            show pm_dep y + 1 + 1 ≤ R.frames ∧ 8 + (pm_ml y + 11) + pm_loc y ≤ R.locals
            constructor <;> omega
          have hcap : cells + (h1.length - h.length) ≤ R.cells ∧ slots + (pm_sl h1 - pm_sl h) ≤ R.slots := by
            constructor <;> omega
          have hwr : 2 * (F0 m pc ls st).monitorRoom + (rest.map fun v => v.category).sum ≤ 8 := lv_room (rest := st) hw8
          have hcont : ∀ a : Array Value, va_Run p l e R s m args below meth c H locs cells slots (h1.length - h.length) (pm_sl h1 - pm_sl h) (F0 m pc ls st) rest (pm_Qc D cA B r1 h1 a) (fun q => B ≤ q) → W p l e R s m args below meth c H locs cells slots Q (F0 m pc ls st) := by
            intro a hr
            refine pm_after hr b3 (fun H1 locs1 z1 z2 z3 z4 => ?_)
            exact ih j (pc + 3) lv _ h1 r h' hrun2 p e R s m args below meth c H1 locs1 _ _ Q ls n0 s0 C ⟨b1, ⟨z1, z2, b2.2.2.1.kept (z3 _ b2.2.2.2.1), b2.2.2.2.1, fun q hq => (z3 q hq).trans (b2.2.2.2.2 q hq)⟩, z4, by omega, by omega⟩ hRc hRs hret
          have hfix : CallFix p m c (pm_by j) (pm_ml j) s args pm_ws (pm_ow j) := ⟨hx, hb, hml, hown, hts⟩
          have hsize : (F0 m pc ls st).locals.size = pm_ml j := b1.1.trans b1.2.2.2
          cases i with
          | invokestatic k =>
            obtain ⟨y2, hy2, hkd⟩ := pm_bind_some (show ((pm_iv j k).bind fun y => if pm_kd y = 0 then some y else none) = some y from hy1)
            split at hkd
            · rename_i hk0
              cases hkd
              obtain ⟨w1, w2⟩ := v5 hk0
              rcases pm_V_i hy2 with hl | ⟨host, hl⟩
              · exact hcont _ (va_runS hfix hM ⟨callB_of _ hts (pm_good hmok) rfl rfl rfl (hts _ v4) (hts _ hl) ⟨v6, v7, w2⟩ hroom, hts _ w1⟩ ⟨hbl, hPc⟩ rfl hal hsize hst hwr hdg hcap)
              · exact hcont _ (va_runSN hfix hM ⟨va_cnB _ hts (pm_good hmok) rfl rfl rfl (hnw _ hl) (hts _ v4) ⟨v6, v7, w2⟩ hroom, hts _ w1, trivial⟩ ⟨hbl, hPc⟩ rfl hal hsize hst hwr hdg hcap)
            · cases hkd
          | invokevirtual k =>
            obtain ⟨y2, hy2, hkd⟩ := pm_bind_some (show ((pm_iv j k).bind fun y => if pm_kd y = 1 then some y else none) = some y from hy1)
            split at hkd
            · rename_i hk1
              cases hkd
              obtain ⟨w1, w2, w3, w4⟩ := (v8 (by omega))
              obtain ⟨a0, ar, fs, rfl, hat⟩ := pm_rc_v hk1 hrc
              obtain ⟨q0, hq0, hq1⟩ := w4 hk1
              have hrecv := va_recv (q0 := 0) hK (pm_one (b2.at hat)) hq0 rfl
              have hst2 : (F0 m pc ls st).stack = ar.reverse ++ .ref a0 :: rest := by rw [show (F0 m pc ls st).stack = st from rfl, hst]; simp
              have hal2 : ar.length = pm_na y - 1 := by have : ar.length + 1 = pm_na y := hal; omega
              rcases pm_V_i hy2 with hl | ⟨host, hl⟩
              · exact hcont _ (va_runV (C := q0.1) hfix hM ⟨callB_of _ hts (pm_good hmok) rfl rfl rfl (hts _ v4) (hts _ hl) ⟨v6, v7, w2⟩ hroom, hts _ w1, hts _ hq1⟩ ⟨hbl, hrecv, hPc⟩ rfl hal2 hsize hst2 hwr hdg hcap)
              · exact hcont _ (va_runVN (C := q0.1) hfix hM ⟨va_cnB _ hts (pm_good hmok) rfl rfl rfl (hnw _ hl) (hts _ v4) ⟨v6, v7, w2⟩ hroom, hts _ w1, hts _ hq1⟩ ⟨hbl, hrecv, hPc⟩ rfl hal2 hsize hst2 hwr hdg hcap)
            · cases hkd
          | invokespecial k =>
            obtain ⟨y2, hy2, hkd⟩ := pm_bind_some (show ((pm_iv j k).bind fun y => if pm_kd y = 2 then some y else none) = some y from hy1)
            split at hkd
            · rename_i hk1
              cases hkd
              obtain ⟨w1, w2, w3, w4⟩ := (v8 (by omega))
              obtain ⟨a0, ar, rfl⟩ := pm_rc_i hk1 hrc
              have hst2 : (F0 m pc ls st).stack = ar.reverse ++ .ref a0 :: rest := by rw [show (F0 m pc ls st).stack = st from rfl, hst]; simp
              have hal2 : ar.length = pm_na y - 1 := by have : ar.length + 1 = pm_na y := hal; omega
              have w5 := w3 hk1
              have hgd := pm_good hmok
              unfold pm_wy at hM hgd
              rw [w5] at hM hgd
              rcases pm_V_i hy2 with hl | ⟨host, hl⟩
              · exact hcont _ (va_runI hfix hM ⟨callB_of _ hts hgd rfl rfl rfl (hts _ v4) (hts _ hl) ⟨v6, v7, w2⟩ hroom, v2 hk1, hts _ w1⟩ ⟨hbl, hPc⟩ rfl hal2 hsize hst2 hwr hdg hcap)
              · exact hcont _ (va_runIN hfix hM ⟨va_cnB _ hts hgd rfl rfl rfl (hnw _ hl) (hts _ v4) ⟨v6, v7, w2⟩ hroom, v2 hk1, hts _ w1⟩ ⟨hbl, hPc⟩ rfl hal2 hsize hst2 hwr hdg hcap)
            · cases hkd
          | _ => cases hy1
        · cases hcl
      · obtain ⟨⟨pc', lv', st', h1⟩, hs, hrun⟩ := pm_bind_some hrun
        dsimp only at hs hrun
        have hg2 := pm_grow _ _ _ _ _ _ _ hrun
        dsimp only at hg2
        exact pm_s1 C hdg hlen hs b (Nat.le_trans hg2.1 hRc) (Nat.le_trans hg2.2 hRs) (fun ls' H' locs' cells' slots' b' => ih j pc' lv' st' h1 r h' hrun p e R s m args below meth c H' locs' cells' slots' Q ls' n0 s0 C b' hRc hRs hret)

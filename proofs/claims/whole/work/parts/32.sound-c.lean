/-! THE REAL MACHINE FOLLOWS THE PURE ONE, c: every instruction that neither calls nor returns. -/
theorem pm_inj {a a' : Nat} {b b' : pm_L} {c c' : List Value} {d d' : pm_H} (h : some (a, b, c, d) = some (a', b', c', d')) : a = a' ∧ b = b' ∧ c = c' ∧ d = d' := by
  cases h
  exact ⟨rfl, rfl, rfl, rfl⟩
theorem pm_lnof {i : Instr} {len k : Nat} (hk : pm_ln i = k + 1) (h : pm_ln i = 0 ∨ len = pm_ln i) : len = k + 1 := by
  rcases h with h | h <;> omega
theorem pm_up_i (cA : ClassId) (n : Nat) (f : Nat → Int32) (k : Nat) (x : Int32) : (vp_cell cA (n, .inl f)).setSlot k (.int x) = vp_cell cA (n, .inl (upd f k x)) := by
  rw [vp_cell_i, vp_cell_i, arrV_store]
  congr 2
  funext q
  by_cases hq : q = k
  · subst hq; simp [updV, upd]
  · simp [updV, upd, hq]
theorem pm_up_l (cA : ClassId) (n : Nat) (f : Nat → Int64) (k : Nat) (x : Int64) : (vp_cell cA (n, .inr (.inl f))).setSlot k (.long x) = vp_cell cA (n, .inr (.inl (vp_updL f k x))) := by
  rw [vp_cell_l, vp_cell_l, arrV_store]
  congr 2
  funext q
  by_cases hq : q = k
  · subst hq; simp [updV, vp_updL]
  · simp [updV, vp_updL, hq]
theorem pm_up_q (cA : ClassId) (n : Nat) (f : Nat → Option Nat) (k v : Nat) : (vp_cell cA (n, .inr (.inr (.inr (.inr f))))).setSlot k (.ref v) = vp_cell cA (n, .inr (.inr (.inr (.inr (va_up f k (some v)))))) := by
  rw [vp_cell_q, vp_cell_q, arrV_store]
  congr 2
  funext q
  by_cases hq : q = k
  · subst hq; simp [updV, va_up, va_rf]
  · simp [updV, va_up, hq]
section PMC
variable {p : Program} {l : Launch} {e : Env} {R : Room} {s : State} {m : MethodId} {args : Array Value} {below : List Frame} {meth : Method} {c : Code} {H : Heap} {locs : List Loc} {cells slots : Nat} {Q : State → Prop}
variable {pc : Nat} {ls : Array Slot} {D : va_G} {cA : Nat → ClassId} {B : Nat} {X : pm_X} {j : Nat} {lv lv' : pm_L} {st st' : List Value} {h h' : pm_H} {n0 s0 len pc' : Nat}
set_option maxHeartbeats 4000000 in
theorem pm_s1 {i : Instr} (C : pm_C D cA p R s m args meth c j) (hdg : decode (pm_by j) pc = .ok (i, len)) (hlen : pm_ln i = 0 ∨ len = pm_ln i) (hs : pm_st1 B X j i len pc lv st h = some (pc', lv', st', h'))
    (b : pm_Bes D cA B X s (pm_ml j) n0 s0 lv h ls H locs cells slots) (hRc : h'.length ≤ n0 + R.cells) (hRs : pm_sl h' ≤ s0 + R.slots)
    (kk : ∀ (ls' : Array Slot) (H' : Heap) (locs' : List Loc) (cells' slots' : Nat), pm_Bes D cA B X s (pm_ml j) n0 s0 lv' h' ls' H' locs' cells' slots' → W p l e R s m args below meth c H' locs' cells' slots' Q (F0 m pc' ls' st')) :
    W p l e R s m args below meth c H locs cells slots Q (F0 m pc ls st) := by
  obtain ⟨hx, hb, hml, hown, hts, hnw, hin, hfr, hlo, hlo2, hK, hT, hAO⟩ := C
  have bl := b.1
  cases i with
  | aconst_null =>
    obtain rfl := pm_lnof (k := 0) rfl hlen
    obtain ⟨rfl, rfl, rfl, rfl⟩ := pm_inj hs
    exact lv_null hx hb hdg (kk _ _ _ _ _ b)
  | iconst n =>
    obtain rfl := pm_lnof (k := 0) rfl hlen
    obtain ⟨rfl, rfl, rfl, rfl⟩ := pm_inj hs
    exact lv_iconst hx hb hdg rfl (kk _ _ _ _ _ b)
  | bipush n =>
    obtain rfl := pm_lnof (k := 1) rfl hlen
    obtain ⟨rfl, rfl, rfl, rfl⟩ := pm_inj hs
    exact lv_bipush hx hb hdg rfl (kk _ _ _ _ _ b)
  | sipush n =>
    obtain rfl := pm_lnof (k := 2) rfl hlen
    obtain ⟨rfl, rfl, rfl, rfl⟩ := pm_inj hs
    exact lv_sipush hx hb hdg rfl (kk _ _ _ _ _ b)
  | lconst n =>
    obtain rfl := pm_lnof (k := 0) rfl hlen
    obtain ⟨rfl, rfl, rfl, rfl⟩ := pm_inj hs
    exact lv_lconst hx hb hdg rfl (kk _ _ _ _ _ b)
  | ldc k =>
    obtain rfl := pm_lnof (k := 1) rfl hlen
    simp only [pm_st1] at hs
    split at hs
    · rename_i v hv
      obtain ⟨rfl, rfl, rfl, rfl⟩ := pm_inj hs
      exact lv_ldc hx hb hown (hts _ (pm_V_ki hv)) hdg (kk _ _ _ _ _ b)
    · cases hs
  | ldc2_w k =>
    obtain rfl := pm_lnof (k := 2) rfl hlen
    simp only [pm_st1] at hs
    split at hs
    · rename_i v hv
      obtain ⟨rfl, rfl, rfl, rfl⟩ := pm_inj hs
      exact lv_ldc2 hx hb hown (hts _ (pm_V_kl hv)) hdg (kk _ _ _ _ _ b)
    · cases hs
  | iload k =>
    obtain rfl := pm_lnof (k := 1) rfl hlen
    simp only [pm_st1] at hs
    split at hs
    · rename_i v hv
      obtain ⟨rfl, rfl, rfl, rfl⟩ := pm_inj hs
      exact lv_iload hx hb hdg (bl.2.2.1 _ _ hv) (kk _ _ _ _ _ b)
    · cases hs
  | iload_n k =>
    obtain rfl := pm_lnof (k := 0) rfl hlen
    simp only [pm_st1] at hs
    split at hs
    · rename_i v hv
      obtain ⟨rfl, rfl, rfl, rfl⟩ := pm_inj hs
      exact lv_iload_n hx hb hdg rfl (bl.2.2.1 _ _ hv) (kk _ _ _ _ _ b)
    · cases hs
  | lload k =>
    obtain rfl := pm_lnof (k := 1) rfl hlen
    simp only [pm_st1] at hs
    split at hs
    · rename_i v hv
      obtain ⟨rfl, rfl, rfl, rfl⟩ := pm_inj hs
      exact lv_lload hx hb hdg (bl.2.2.1 _ _ hv) (kk _ _ _ _ _ b)
    · cases hs
  | lload_n k =>
    obtain rfl := pm_lnof (k := 0) rfl hlen
    simp only [pm_st1] at hs
    split at hs
    · rename_i v hv
      obtain ⟨rfl, rfl, rfl, rfl⟩ := pm_inj hs
      exact lv_lload_n hx hb hdg rfl (bl.2.2.1 _ _ hv) (kk _ _ _ _ _ b)
    · cases hs
  | aload k =>
    obtain rfl := pm_lnof (k := 1) rfl hlen
    simp only [pm_st1] at hs
    split at hs
    · rename_i v hv
      obtain ⟨rfl, rfl, rfl, rfl⟩ := pm_inj hs
      exact lv_aload hx hb hdg (bl.2.2.1 _ _ hv) (kk _ _ _ _ _ b)
    · rename_i hv
      obtain ⟨rfl, rfl, rfl, rfl⟩ := pm_inj hs
      exact lv_aloadN hx hb hdg (bl.2.2.1 _ _ hv) (kk _ _ _ _ _ b)
    · cases hs
  | aload_n k =>
    obtain rfl := pm_lnof (k := 0) rfl hlen
    simp only [pm_st1] at hs
    split at hs
    · rename_i v hv
      obtain ⟨rfl, rfl, rfl, rfl⟩ := pm_inj hs
      exact lv_aload_n hx hb hdg rfl (bl.2.2.1 _ _ hv) (kk _ _ _ _ _ b)
    · rename_i hv
      obtain ⟨rfl, rfl, rfl, rfl⟩ := pm_inj hs
      exact lv_aload_nN hx hb hdg rfl (bl.2.2.1 _ _ hv) (kk _ _ _ _ _ b)
    · cases hs
  | istore k =>
    obtain rfl := pm_lnof (k := 1) rfl hlen
    have hq := pm_i1_some hs; clear hs; obtain ⟨x, r, rfl, hs⟩ := hq
    split at hs
    · rename_i hk
      obtain ⟨rfl, rfl, rfl, rfl⟩ := pm_inj hs
      exact lv_istore hx hb hdg bl.has hk rfl (fun ls' hl' => kk _ _ _ _ _ ⟨pm_lok.put1 hl' hk bl.2.2.2, b.2⟩)
    · cases hs
  | istore_n k =>
    obtain rfl := pm_lnof (k := 0) rfl hlen
    have hq := pm_i1_some hs; clear hs; obtain ⟨x, r, rfl, hs⟩ := hq
    split at hs
    · rename_i hk
      obtain ⟨rfl, rfl, rfl, rfl⟩ := pm_inj hs
      exact lv_istore_n hx hb hdg rfl bl.has hk rfl (fun ls' hl' => kk _ _ _ _ _ ⟨pm_lok.put1 hl' hk bl.2.2.2, b.2⟩)
    · cases hs
  | lstore k =>
    obtain rfl := pm_lnof (k := 1) rfl hlen
    have hq := pm_l1_some hs; clear hs; obtain ⟨x, r, rfl, hs⟩ := hq
    split at hs
    · rename_i hk
      obtain ⟨rfl, rfl, rfl, rfl⟩ := pm_inj hs
      exact lv_lstore hx hb hdg bl.has hk rfl (fun ls' hl' => kk _ _ _ _ _ ⟨pm_lok.put2 hl' hk bl.2.2.2, b.2⟩)
    · cases hs
  | lstore_n k =>
    obtain rfl := pm_lnof (k := 0) rfl hlen
    have hq := pm_l1_some hs; clear hs; obtain ⟨x, r, rfl, hs⟩ := hq
    split at hs
    · rename_i hk
      obtain ⟨rfl, rfl, rfl, rfl⟩ := pm_inj hs
      exact lv_lstore_n hx hb hdg rfl bl.has hk rfl (fun ls' hl' => kk _ _ _ _ _ ⟨pm_lok.put2 hl' hk bl.2.2.2, b.2⟩)
    · cases hs
  | astore k =>
    obtain rfl := pm_lnof (k := 1) rfl hlen
    simp only [pm_st1] at hs
    split at hs
    · split at hs
      · rename_i hk
        obtain ⟨rfl, rfl, rfl, rfl⟩ := pm_inj hs
        exact lv_astore hx hb hdg bl.has hk rfl (fun ls' hl' => kk _ _ _ _ _ ⟨pm_lok.put1 hl' hk bl.2.2.2, b.2⟩)
      · cases hs
    · split at hs
      · rename_i hk
        obtain ⟨rfl, rfl, rfl, rfl⟩ := pm_inj hs
        exact lv_astoreN hx hb hdg bl.has hk rfl (fun ls' hl' => kk _ _ _ _ _ ⟨pm_lok.put1 hl' hk bl.2.2.2, b.2⟩)
      · cases hs
    · cases hs
  | astore_n k =>
    obtain rfl := pm_lnof (k := 0) rfl hlen
    simp only [pm_st1] at hs
    split at hs
    · split at hs
      · rename_i hk
        obtain ⟨rfl, rfl, rfl, rfl⟩ := pm_inj hs
        exact lv_astore_n hx hb hdg rfl bl.has hk rfl (fun ls' hl' => kk _ _ _ _ _ ⟨pm_lok.put1 hl' hk bl.2.2.2, b.2⟩)
      · cases hs
    · split at hs
      · rename_i hk
        obtain ⟨rfl, rfl, rfl, rfl⟩ := pm_inj hs
        exact lv_astore_nN hx hb hdg rfl bl.has hk rfl (fun ls' hl' => kk _ _ _ _ _ ⟨pm_lok.put1 hl' hk bl.2.2.2, b.2⟩)
      · cases hs
    · cases hs
  | iinc k n =>
    obtain rfl := pm_lnof (k := 2) rfl hlen
    simp only [pm_st1] at hs
    split at hs
    · rename_i x hv
      obtain ⟨rfl, rfl, rfl, rfl⟩ := pm_inj hs
      obtain ⟨q, hq⟩ := List.getElem?_of_mem (pm_pairs_mem.mpr hv)
      exact lv_iinc hx hb hdg bl.has hq rfl (List.getElem?_eq_some_iff.mp hv).1 rfl (fun ls' hl' => kk _ _ _ _ _ ⟨pm_lok.put1 hl' (List.getElem?_eq_some_iff.mp hv).1 bl.2.2.2, b.2⟩)
    · cases hs
  | iadd =>
    obtain rfl := pm_lnof (k := 0) rfl hlen
    have hq := pm_i2_some hs; clear hs; obtain ⟨x, y, r, rfl, hs⟩ := hq
    obtain ⟨rfl, rfl, rfl, rfl⟩ := pm_inj hs
    exact lv_iadd hx hb hdg (kk _ _ _ _ _ b)
  | isub =>
    obtain rfl := pm_lnof (k := 0) rfl hlen
    have hq := pm_i2_some hs; clear hs; obtain ⟨x, y, r, rfl, hs⟩ := hq
    obtain ⟨rfl, rfl, rfl, rfl⟩ := pm_inj hs
    exact lv_isub hx hb hdg (kk _ _ _ _ _ b)
  | imul =>
    obtain rfl := pm_lnof (k := 0) rfl hlen
    have hq := pm_i2_some hs; clear hs; obtain ⟨x, y, r, rfl, hs⟩ := hq
    obtain ⟨rfl, rfl, rfl, rfl⟩ := pm_inj hs
    exact lv_imul hx hb hdg (kk _ _ _ _ _ b)
  | iand =>
    obtain rfl := pm_lnof (k := 0) rfl hlen
    have hq := pm_i2_some hs; clear hs; obtain ⟨x, y, r, rfl, hs⟩ := hq
    obtain ⟨rfl, rfl, rfl, rfl⟩ := pm_inj hs
    exact lv_iand hx hb hdg (kk _ _ _ _ _ b)
  | ior =>
    obtain rfl := pm_lnof (k := 0) rfl hlen
    have hq := pm_i2_some hs; clear hs; obtain ⟨x, y, r, rfl, hs⟩ := hq
    obtain ⟨rfl, rfl, rfl, rfl⟩ := pm_inj hs
    exact lv_ior hx hb hdg (kk _ _ _ _ _ b)
  | ixor =>
    obtain rfl := pm_lnof (k := 0) rfl hlen
    have hq := pm_i2_some hs; clear hs; obtain ⟨x, y, r, rfl, hs⟩ := hq
    obtain ⟨rfl, rfl, rfl, rfl⟩ := pm_inj hs
    exact lv_ixor hx hb hdg (kk _ _ _ _ _ b)
  | ishl =>
    obtain rfl := pm_lnof (k := 0) rfl hlen
    have hq := pm_i2_some hs; clear hs; obtain ⟨x, y, r, rfl, hs⟩ := hq
    obtain ⟨rfl, rfl, rfl, rfl⟩ := pm_inj hs
    exact lv_ishl hx hb hdg (kk _ _ _ _ _ b)
  | ishr =>
    obtain rfl := pm_lnof (k := 0) rfl hlen
    have hq := pm_i2_some hs; clear hs; obtain ⟨x, y, r, rfl, hs⟩ := hq
    obtain ⟨rfl, rfl, rfl, rfl⟩ := pm_inj hs
    exact lv_ishr hx hb hdg (kk _ _ _ _ _ b)
  | iushr =>
    obtain rfl := pm_lnof (k := 0) rfl hlen
    have hq := pm_i2_some hs; clear hs; obtain ⟨x, y, r, rfl, hs⟩ := hq
    obtain ⟨rfl, rfl, rfl, rfl⟩ := pm_inj hs
    exact lv_iushr hx hb hdg rfl (kk _ _ _ _ _ b)
  | idiv =>
    obtain rfl := pm_lnof (k := 0) rfl hlen
    have hq := pm_i2_some hs; clear hs; obtain ⟨x, y, r, rfl, hs⟩ := hq
    split at hs
    · cases hs
    · rename_i hy
      obtain ⟨rfl, rfl, rfl, rfl⟩ := pm_inj hs
      exact lv_idiv hx hb hdg hy (kk _ _ _ _ _ b)
  | irem =>
    obtain rfl := pm_lnof (k := 0) rfl hlen
    have hq := pm_i2_some hs; clear hs; obtain ⟨x, y, r, rfl, hs⟩ := hq
    split at hs
    · cases hs
    · rename_i hy
      obtain ⟨rfl, rfl, rfl, rfl⟩ := pm_inj hs
      exact lv_irem hx hb hdg hy (kk _ _ _ _ _ b)
  | ladd =>
    obtain rfl := pm_lnof (k := 0) rfl hlen
    have hq := pm_l2_some hs; clear hs; obtain ⟨x, y, r, rfl, hs⟩ := hq
    obtain ⟨rfl, rfl, rfl, rfl⟩ := pm_inj hs
    exact lv_ladd hx hb hdg (kk _ _ _ _ _ b)
  | lsub =>
    obtain rfl := pm_lnof (k := 0) rfl hlen
    have hq := pm_l2_some hs; clear hs; obtain ⟨x, y, r, rfl, hs⟩ := hq
    obtain ⟨rfl, rfl, rfl, rfl⟩ := pm_inj hs
    exact lv_lsub hx hb hdg (kk _ _ _ _ _ b)
  | lmul =>
    obtain rfl := pm_lnof (k := 0) rfl hlen
    have hq := pm_l2_some hs; clear hs; obtain ⟨x, y, r, rfl, hs⟩ := hq
    obtain ⟨rfl, rfl, rfl, rfl⟩ := pm_inj hs
    exact lv_lmul hx hb hdg (kk _ _ _ _ _ b)
  | land =>
    obtain rfl := pm_lnof (k := 0) rfl hlen
    have hq := pm_l2_some hs; clear hs; obtain ⟨x, y, r, rfl, hs⟩ := hq
    obtain ⟨rfl, rfl, rfl, rfl⟩ := pm_inj hs
    exact lv_land hx hb hdg (kk _ _ _ _ _ b)
  | lor =>
    obtain rfl := pm_lnof (k := 0) rfl hlen
    have hq := pm_l2_some hs; clear hs; obtain ⟨x, y, r, rfl, hs⟩ := hq
    obtain ⟨rfl, rfl, rfl, rfl⟩ := pm_inj hs
    exact lv_lor hx hb hdg (kk _ _ _ _ _ b)
  | lxor =>
    obtain rfl := pm_lnof (k := 0) rfl hlen
    have hq := pm_l2_some hs; clear hs; obtain ⟨x, y, r, rfl, hs⟩ := hq
    obtain ⟨rfl, rfl, rfl, rfl⟩ := pm_inj hs
    exact lv_lxor hx hb hdg (kk _ _ _ _ _ b)
  | lcmp =>
    obtain rfl := pm_lnof (k := 0) rfl hlen
    have hq := pm_l2_some hs; clear hs; obtain ⟨x, y, r, rfl, hs⟩ := hq
    obtain ⟨rfl, rfl, rfl, rfl⟩ := pm_inj hs
    exact W.lcmp hx hb hdg (kk _ _ _ _ _ b)
  | ldiv =>
    obtain rfl := pm_lnof (k := 0) rfl hlen
    have hq := pm_l2_some hs; clear hs; obtain ⟨x, y, r, rfl, hs⟩ := hq
    split at hs
    · cases hs
    · rename_i hy
      obtain ⟨rfl, rfl, rfl, rfl⟩ := pm_inj hs
      exact lv_ldiv hx hb hdg hy (kk _ _ _ _ _ b)
  | lrem =>
    obtain rfl := pm_lnof (k := 0) rfl hlen
    have hq := pm_l2_some hs; clear hs; obtain ⟨x, y, r, rfl, hs⟩ := hq
    split at hs
    · cases hs
    · rename_i hy
      obtain ⟨rfl, rfl, rfl, rfl⟩ := pm_inj hs
      exact lv_lrem hx hb hdg hy (kk _ _ _ _ _ b)
  | lshl =>
    obtain rfl := pm_lnof (k := 0) rfl hlen
    have hq := pm_li_some hs; clear hs; obtain ⟨x, y, r, rfl, hs⟩ := hq
    obtain ⟨rfl, rfl, rfl, rfl⟩ := pm_inj hs
    exact lv_lshl hx hb hdg rfl (kk _ _ _ _ _ b)
  | lshr =>
    obtain rfl := pm_lnof (k := 0) rfl hlen
    have hq := pm_li_some hs; clear hs; obtain ⟨x, y, r, rfl, hs⟩ := hq
    obtain ⟨rfl, rfl, rfl, rfl⟩ := pm_inj hs
    exact lv_lshr hx hb hdg rfl (kk _ _ _ _ _ b)
  | lushr =>
    obtain rfl := pm_lnof (k := 0) rfl hlen
    have hq := pm_li_some hs; clear hs; obtain ⟨x, y, r, rfl, hs⟩ := hq
    obtain ⟨rfl, rfl, rfl, rfl⟩ := pm_inj hs
    exact lv_lushr hx hb hdg rfl (kk _ _ _ _ _ b)
  | ineg =>
    obtain rfl := pm_lnof (k := 0) rfl hlen
    have hq := pm_i1_some hs; clear hs; obtain ⟨x, r, rfl, hs⟩ := hq
    obtain ⟨rfl, rfl, rfl, rfl⟩ := pm_inj hs
    exact lv_ineg hx hb hdg (kk _ _ _ _ _ b)
  | i2l =>
    obtain rfl := pm_lnof (k := 0) rfl hlen
    have hq := pm_i1_some hs; clear hs; obtain ⟨x, r, rfl, hs⟩ := hq
    obtain ⟨rfl, rfl, rfl, rfl⟩ := pm_inj hs
    exact lv_i2l hx hb hdg rfl (kk _ _ _ _ _ b)
  | i2c =>
    obtain rfl := pm_lnof (k := 0) rfl hlen
    have hq := pm_i1_some hs; clear hs; obtain ⟨x, r, rfl, hs⟩ := hq
    obtain ⟨rfl, rfl, rfl, rfl⟩ := pm_inj hs
    exact lv_i2c hx hb hdg rfl (kk _ _ _ _ _ b)
  | i2b =>
    obtain rfl := pm_lnof (k := 0) rfl hlen
    have hq := pm_i1_some hs; clear hs; obtain ⟨x, r, rfl, hs⟩ := hq
    obtain ⟨rfl, rfl, rfl, rfl⟩ := pm_inj hs
    exact lv_i2b hx hb hdg rfl (kk _ _ _ _ _ b)
  | i2s =>
    obtain rfl := pm_lnof (k := 0) rfl hlen
    have hq := pm_i1_some hs; clear hs; obtain ⟨x, r, rfl, hs⟩ := hq
    obtain ⟨rfl, rfl, rfl, rfl⟩ := pm_inj hs
    exact lv_i2s hx hb hdg rfl (kk _ _ _ _ _ b)
  | lneg =>
    obtain rfl := pm_lnof (k := 0) rfl hlen
    have hq := pm_l1_some hs; clear hs; obtain ⟨x, r, rfl, hs⟩ := hq
    obtain ⟨rfl, rfl, rfl, rfl⟩ := pm_inj hs
    exact lv_lneg hx hb hdg (kk _ _ _ _ _ b)
  | l2i =>
    obtain rfl := pm_lnof (k := 0) rfl hlen
    have hq := pm_l1_some hs; clear hs; obtain ⟨x, r, rfl, hs⟩ := hq
    obtain ⟨rfl, rfl, rfl, rfl⟩ := pm_inj hs
    exact lv_l2i hx hb hdg rfl (kk _ _ _ _ _ b)
  | pop =>
    obtain rfl := pm_lnof (k := 0) rfl hlen
    simp only [pm_st1] at hs
    split at hs
    · split at hs
      · rename_i hk
        obtain ⟨rfl, rfl, rfl, rfl⟩ := pm_inj hs
        exact lv_pop hx hb hdg hk (kk _ _ _ _ _ b)
      · cases hs
    · cases hs
  | dup =>
    obtain rfl := pm_lnof (k := 0) rfl hlen
    simp only [pm_st1] at hs
    split at hs
    · split at hs
      · rename_i hk
        obtain ⟨rfl, rfl, rfl, rfl⟩ := pm_inj hs
        exact lv_dup hx hb hdg hk (kk _ _ _ _ _ b)
      · cases hs
    · cases hs
  | dup_x1 =>
    obtain rfl := pm_lnof (k := 0) rfl hlen
    simp only [pm_st1] at hs
    split at hs
    · split at hs
      · rename_i hk
        obtain ⟨rfl, rfl, rfl, rfl⟩ := pm_inj hs
        exact lv_dup_x1 hx hb hdg hk.1 hk.2 (kk _ _ _ _ _ b)
      · cases hs
    · cases hs
  | dup_x2 =>
    obtain rfl := pm_lnof (k := 0) rfl hlen
    simp only [pm_st1] at hs
    split at hs
    · split at hs
      · rename_i hk
        obtain ⟨rfl, rfl, rfl, rfl⟩ := pm_inj hs
        exact lv_dup_x2 hx hb hdg hk.1 hk.2.1 hk.2.2 (kk _ _ _ _ _ b)
      · cases hs
    · cases hs
  | dup2 =>
    obtain rfl := pm_lnof (k := 0) rfl hlen
    simp only [pm_st1] at hs
    split at hs
    · obtain ⟨rfl, rfl, rfl, rfl⟩ := pm_inj hs
      exact lv_dup2_2 hx hb hdg rfl (kk _ _ _ _ _ b)
    · split at hs
      · rename_i hk
        obtain ⟨rfl, rfl, rfl, rfl⟩ := pm_inj hs
        exact lv_dup2_11 hx hb hdg hk.1 hk.2 (kk _ _ _ _ _ b)
      · cases hs
    · cases hs
  | pop2 =>
    obtain rfl := pm_lnof (k := 0) rfl hlen
    simp only [pm_st1] at hs
    split at hs
    · obtain ⟨rfl, rfl, rfl, rfl⟩ := pm_inj hs
      exact lv_pop2_2 hx hb hdg rfl (kk _ _ _ _ _ b)
    · split at hs
      · rename_i hk
        obtain ⟨rfl, rfl, rfl, rfl⟩ := pm_inj hs
        exact lv_pop2_11 hx hb hdg hk.1 hk.2 (kk _ _ _ _ _ b)
      · cases hs
    · cases hs
  | dup2_x1 =>
    obtain rfl := pm_lnof (k := 0) rfl hlen
    simp only [pm_st1] at hs
    split at hs
    · split at hs
      · rename_i hk
        obtain ⟨rfl, rfl, rfl, rfl⟩ := pm_inj hs
        exact lv_dup2_x1_2 hx hb hdg rfl hk (kk _ _ _ _ _ b)
      · cases hs
    · cases hs
  | dup2_x2 =>
    obtain rfl := pm_lnof (k := 0) rfl hlen
    simp only [pm_st1] at hs
    split at hs
    · split at hs
      · rename_i hk
        obtain ⟨rfl, rfl, rfl, rfl⟩ := pm_inj hs
        exact lv_dup2_x2_2 hx hb hdg rfl hk.1 hk.2 (kk _ _ _ _ _ b)
      · cases hs
    · cases hs
  | ifCond cd off =>
    obtain rfl := pm_lnof (k := 2) rfl hlen
    have hq := pm_i1_some hs; clear hs; obtain ⟨x, r, rfl, hs⟩ := hq
    obtain ⟨t, ht, hs⟩ := pm_j_some hs
    obtain ⟨rfl, rfl, rfl, rfl⟩ := pm_inj hs
    have k := kk _ _ _ _ _ b
    have kt : pm_cnd cd x 0 = true → W p l e R s m args below meth c H locs cells slots Q (F0 m t ls r) := fun z => by rw [z] at k; exact k
    have kf : pm_cnd cd x 0 = false → W p l e R s m args below meth c H locs cells slots Q (F0 m (pc + 3) ls r) := fun z => by rw [z] at k; exact k
    cases cd with
    | eq => exact lv_if_eq hx hb hdg ht (fun q => kt (decide_eq_true q)) (fun q => kf (decide_eq_false q))
    | ne => exact lv_if_ne hx hb hdg ht (fun q => kt (by show (!decide (x = 0)) = true; rw [decide_eq_false q]; rfl)) (fun q => kf (by show (!decide (x = 0)) = false; rw [decide_eq_true q]; rfl))
    | lt => exact lv_if_lt hx hb hdg ht (fun q => kt (decide_eq_true q)) (fun q => kf (decide_eq_false q))
    | ge => exact lv_if_ge hx hb hdg ht (fun q => kt (decide_eq_true q)) (fun q => kf (decide_eq_false q))
    | gt => exact lv_if_gt hx hb hdg ht (fun q => kt (decide_eq_true q)) (fun q => kf (decide_eq_false q))
    | le => exact lv_if_le hx hb hdg ht (fun q => kt (decide_eq_true q)) (fun q => kf (decide_eq_false q))
  | if_icmp cd off =>
    obtain rfl := pm_lnof (k := 2) rfl hlen
    have hq := pm_i2_some hs; clear hs; obtain ⟨x, y, r, rfl, hs⟩ := hq
    obtain ⟨t, ht, hs⟩ := pm_j_some hs
    obtain ⟨rfl, rfl, rfl, rfl⟩ := pm_inj hs
    have k := kk _ _ _ _ _ b
    have kt : pm_cnd cd x y = true → W p l e R s m args below meth c H locs cells slots Q (F0 m t ls r) := fun z => by rw [z] at k; exact k
    have kf : pm_cnd cd x y = false → W p l e R s m args below meth c H locs cells slots Q (F0 m (pc + 3) ls r) := fun z => by rw [z] at k; exact k
    cases cd with
    | eq => exact lv_icmp_eq hx hb hdg ht (fun q => kt (decide_eq_true q)) (fun q => kf (decide_eq_false q))
    | ne => exact lv_icmp_ne hx hb hdg ht (fun q => kt (by show (!decide (x = y)) = true; rw [decide_eq_false q]; rfl)) (fun q => kf (by show (!decide (x = y)) = false; rw [decide_eq_true q]; rfl))
    | lt => exact lv_icmp_lt hx hb hdg ht (fun q => kt (decide_eq_true q)) (fun q => kf (decide_eq_false q))
    | ge => exact lv_icmp_ge hx hb hdg ht (fun q => kt (decide_eq_true q)) (fun q => kf (decide_eq_false q))
    | gt => exact lv_icmp_gt hx hb hdg ht (fun q => kt (decide_eq_true q)) (fun q => kf (decide_eq_false q))
    | le => exact lv_icmp_le hx hb hdg ht (fun q => kt (decide_eq_true q)) (fun q => kf (decide_eq_false q))
  | goto off =>
    obtain rfl := pm_lnof (k := 2) rfl hlen
    simp only [pm_st1] at hs
    obtain ⟨t, ht, hs⟩ := pm_j_some hs
    obtain ⟨rfl, rfl, rfl, rfl⟩ := pm_inj hs
    exact lv_goto hx hb hdg ht (kk _ _ _ _ _ b)
  | ifnull off =>
    obtain rfl := pm_lnof (k := 2) rfl hlen
    simp only [pm_st1] at hs
    split at hs
    · obtain ⟨rfl, rfl, rfl, rfl⟩ := pm_inj hs
      exact lv_ifnull hx hb hdg (kk _ _ _ _ _ b)
    · obtain ⟨t, ht, hs⟩ := pm_j_some hs
      obtain ⟨rfl, rfl, rfl, rfl⟩ := pm_inj hs
      exact lv_ifnullN hx hb hdg ht (kk _ _ _ _ _ b)
    · cases hs
  | ifnonnull off =>
    obtain rfl := pm_lnof (k := 2) rfl hlen
    simp only [pm_st1] at hs
    split at hs
    · obtain ⟨t, ht, hs⟩ := pm_j_some hs
      obtain ⟨rfl, rfl, rfl, rfl⟩ := pm_inj hs
      exact lv_ifnonnull hx hb hdg ht (kk _ _ _ _ _ b)
    · obtain ⟨rfl, rfl, rfl, rfl⟩ := pm_inj hs
      exact lv_ifnonnullN hx hb hdg (kk _ _ _ _ _ b)
    · cases hs
  | tableswitch d lo hi offs =>
    have hq := pm_i1_some hs; clear hs; obtain ⟨x, r, rfl, hs⟩ := hq
    split at hs
    · rename_i hq
      obtain ⟨t, ht, hs⟩ := pm_j_some hs
      obtain ⟨rfl, rfl, rfl, rfl⟩ := pm_inj hs
      exact lv_tableOut hx hb hdg hq ht (kk _ _ _ _ _ b)
    · rename_i hq
      split at hs
      · rename_i off ho
        obtain ⟨t, ht, hs⟩ := pm_j_some hs
        obtain ⟨rfl, rfl, rfl, rfl⟩ := pm_inj hs
        exact lv_tableIn hx hb hdg (fun z => hq (Or.inl z)) (fun z => hq (Or.inr z)) ho ht (kk _ _ _ _ _ b)
      · cases hs
  | lookupswitch d ps =>
    have hq := pm_i1_some hs; clear hs; obtain ⟨x, r, rfl, hs⟩ := hq
    split at hs
    · rename_i hq
      obtain ⟨t, ht, hs⟩ := pm_j_some hs
      obtain ⟨rfl, rfl, rfl, rfl⟩ := pm_inj hs
      exact lv_lookup hx hb hdg hq rfl ht (kk _ _ _ _ _ b)
    · cases hs
  | getfield k =>
    obtain rfl := pm_lnof (k := 2) rfl hlen
    simp only [pm_st1] at hs
    split at hs
    · rename_i ci f hf
      have hq := pm_a1_some hs; clear hs; obtain ⟨a, r, rfl, hs⟩ := hq
      obtain ⟨v, q1, hs⟩ := pm_bind_some hs
      obtain ⟨fs, q2, q3⟩ := pm_gf_some q1
      obtain ⟨rfl, rfl, rfl, rfl⟩ := pm_inj hs
      obtain ⟨Cn, T, N, h1, h2, h3, h4, h5, h6⟩ := pm_V_f hf
      rcases h6 with h6 | ⟨host, h6⟩
      · exact va_get (D := D) hx hb hts h3 hown hK (pm_one (b.2.1.at q2)) 0 rfl h1 f h2 (hts _ h6) (fun _ z => z) q3 hdg (kk _ _ _ _ _ b)
      · exact va_getN (D := D) hx hb hts h3 hown hK (pm_one (b.2.1.at q2)) 0 rfl h1 f h2 (va_Nw.use rfl (hnw _ h6)) (fun _ z => z) q3 hdg (kk _ _ _ _ _ b)
    · cases hs
  | putfield k =>
    obtain rfl := pm_lnof (k := 2) rfl hlen
    simp only [pm_st1] at hs
    split at hs
    · rename_i ci f v a r hf
      obtain ⟨e1, q1, hs⟩ := pm_bind_some hs
      obtain ⟨fs, q2, q3, q4, q5, rfl⟩ := pm_pf_some q1
      obtain ⟨rfl, rfl, rfl, rfl⟩ := pm_inj hs
      obtain ⟨Cn, T, N, h1, h2, h3, h4, h5, h6⟩ := pm_V_p hf
      refine pm_rput (D := D) hx hb hts h3 (pm_ft ci) h4 h5 hown hK (b.2.1.at q2) h1 h2 ?_ q4 q5 q3 hdg (fun H1 x z1 z2 z3 => kk _ _ _ _ _ (pm_bes_st b q2 (by simp [pm_sz]) z1 z2 z3))
      rcases h6 with ⟨h6, h7⟩ | ⟨h7, host, h6⟩
      · refine Or.inl ⟨hts _ h6, ?_⟩
        rcases h7 with h7 | ⟨h7, h8, h9⟩
        · exact Or.inl h7
        · exact Or.inr ⟨h7, hin h8, h9⟩
      · exact Or.inr ⟨h7, host, va_Nw.use rfl (hnw _ h6)⟩
    · cases hs
  | iaload =>
    obtain rfl := pm_lnof (k := 0) rfl hlen
    have hq := pm_ai_some hs; clear hs; obtain ⟨a, i, r, rfl, hs⟩ := hq
    cases hlj : Nat.beq j pm_lj with
    | true =>
      rw [hlj] at hs
      dsimp only [cond_true] at hs
      split at hs
      · rename_i hi
        obtain ⟨rfl, hi⟩ := hi
        obtain ⟨rfl, rfl, rfl, rfl⟩ := pm_inj hs
        obtain ⟨scr, h1, h2, h3, h4, h5⟩ := b.2.1.2.2.1
        have hin := pm_ixin hi
        have hlt : i.toNatClampNeg < X.2.1 := Nat.not_le.mp fun q => hin (Or.inr q)
        exact W.iald (v := .int (X.2.2 i.toNatClampNeg)) hx hb h1 h2 h3 (by rw [h4]; exact hin) (h5 _ hlt) rfl rfl hdg (kk _ _ _ _ _ b)
      · cases hs
    | false =>
      rw [hlj] at hs
      dsimp only [cond_false] at hs
      obtain ⟨v, q1, hs⟩ := pm_bind_some hs
      obtain ⟨n, f, q2, q3, q4, rfl⟩ := pm_ldi_some q1
      obtain ⟨rfl, rfl, rfl, rfl⟩ := pm_inj hs
      have hin := pm_ixin q4
      have hlt : i.toNatClampNeg < n := Nat.not_le.mp fun q => hin (Or.inr q)
      exact W.iald (v := .int (f i.toNatClampNeg)) hx hb (b.2.1.at q2) ((hT 0 q3).1 n (fun j => .int (f j))) (fun q => by cases q) (by show ¬ (i < 0 ∨ (arrV _ _ _).slots.size ≤ _); rw [arrV_size]; exact hin) (by show (arrV _ _ _).slots[_]? = _; rw [arrV_read _ _ hlt]) rfl rfl hdg (kk _ _ _ _ _ b)
  | caload =>
    obtain rfl := pm_lnof (k := 0) rfl hlen
    have hq := pm_ai_some hs; clear hs; obtain ⟨a, i, r, rfl, hs⟩ := hq
    obtain ⟨v, q1, hs⟩ := pm_bind_some hs
    obtain ⟨n, f, q2, q3, q4, rfl⟩ := pm_ldi_some q1
    obtain ⟨rfl, rfl, rfl, rfl⟩ := pm_inj hs
    have hin := pm_ixin q4
    have hlt : i.toNatClampNeg < n := Nat.not_le.mp fun q => hin (Or.inr q)
    exact W.cald (v := .int (f i.toNatClampNeg)) hx hb (b.2.1.at q2) ((hT 2 q3).1 n (fun j => .int (f j))) (fun q => by cases q) (by show ¬ (i < 0 ∨ (arrV _ _ _).slots.size ≤ _); rw [arrV_size]; exact hin) (by show (arrV _ _ _).slots[_]? = _; rw [arrV_read _ _ hlt]) rfl rfl hdg (kk _ _ _ _ _ b)
  | baload =>
    obtain rfl := pm_lnof (k := 0) rfl hlen
    have hq := pm_ai_some hs; clear hs; obtain ⟨a, i, r, rfl, hs⟩ := hq
    obtain ⟨v, q1, hs⟩ := pm_bind_some hs
    obtain ⟨n, f, q2, q3, q4, rfl⟩ := pm_ldi_some q1
    obtain ⟨rfl, rfl, rfl, rfl⟩ := pm_inj hs
    have hin := pm_ixin q4
    have hlt : i.toNatClampNeg < n := Nat.not_le.mp fun q => hin (Or.inr q)
    exact W.zald (v := .int (f i.toNatClampNeg)) hx hb (b.2.1.at q2) ((hT 3 q3).1 n (fun j => .int (f j))) (fun q => by cases q) (by show ¬ (i < 0 ∨ (arrV _ _ _).slots.size ≤ _); rw [arrV_size]; exact hin) (by show (arrV _ _ _).slots[_]? = _; rw [arrV_read _ _ hlt]) rfl rfl hdg (kk _ _ _ _ _ b)
  | laload =>
    obtain rfl := pm_lnof (k := 0) rfl hlen
    have hq := pm_ai_some hs; clear hs; obtain ⟨a, i, r, rfl, hs⟩ := hq
    obtain ⟨v, q1, hs⟩ := pm_bind_some hs
    obtain ⟨n, f, q2, q3, q4, rfl⟩ := pm_ldl_some q1
    obtain ⟨rfl, rfl, rfl, rfl⟩ := pm_inj hs
    have hin := pm_ixin q4
    have hlt : i.toNatClampNeg < n := Nat.not_le.mp fun q => hin (Or.inr q)
    exact W.lald (v := .long (f i.toNatClampNeg)) hx hb (b.2.1.at q2) ((hT 1 q3).1 n (fun j => .long (f j))) (fun q => by cases q) (by show ¬ (i < 0 ∨ (arrV _ _ _).slots.size ≤ _); rw [arrV_size]; exact hin) (by show (arrV _ _ _).slots[_]? = _; rw [arrV_read _ _ hlt]) rfl rfl hdg (kk _ _ _ _ _ b)
  | aaload =>
    obtain rfl := pm_lnof (k := 0) rfl hlen
    have hq := pm_ai_some hs; clear hs; obtain ⟨a, i, r, rfl, hs⟩ := hq
    obtain ⟨v, q1, hs⟩ := pm_bind_some hs
    obtain ⟨k, n, f, q2, q3, q4, rfl⟩ := pm_lda_some q1
    obtain ⟨rfl, rfl, rfl, rfl⟩ := pm_inj hs
    have hin := pm_ixin q4
    have hlt : i.toNatClampNeg < n := Nat.not_le.mp fun q => hin (Or.inr q)
    exact W.aald (v := va_rf (f i.toNatClampNeg)) (ty := .object (pm_oc k)) hx hb (b.2.1.at q2) ((hT (k + 4) q3).1 n (fun j => va_rf (f j))) rfl (fun q => by cases q) (by show ¬ (i < 0 ∨ (arrV _ _ _).slots.size ≤ _); rw [arrV_size]; exact hin) (by show (arrV _ _ _).slots[_]? = _; rw [arrV_read _ _ hlt]) rfl rfl hdg (kk _ _ _ _ _ b)
  | iastore =>
    obtain rfl := pm_lnof (k := 0) rfl hlen
    simp only [pm_st1] at hs
    split at hs
    · obtain ⟨e1, q1, hs⟩ := pm_bind_some hs
      obtain ⟨n, f, q2, q3, q4, rfl⟩ := pm_sti_some q1
      obtain ⟨rfl, rfl, rfl, rfl⟩ := pm_inj hs
      refine W.iast hx hb (b.2.1.at q2) ((hT 0 q3).1 n (fun j => .int (f j))) (fun q => by cases q) (by show ¬ (_ < 0 ∨ (arrV _ _ _).slots.size ≤ _); rw [arrV_size]; exact pm_ixin q4) rfl rfl hdg fun H1 e z oq => kk _ _ _ _ _ (pm_bes_st b q2 rfl ?_ z oq)
      show H1[_]? = some (vp_cell _ _)
      rw [e]
      exact congrArg some (pm_up_i _ _ _ _ _)
    · cases hs
  | castore =>
    obtain rfl := pm_lnof (k := 0) rfl hlen
    simp only [pm_st1] at hs
    split at hs
    · obtain ⟨e1, q1, hs⟩ := pm_bind_some hs
      obtain ⟨n, f, q2, q3, q4, rfl⟩ := pm_sti_some q1
      obtain ⟨rfl, rfl, rfl, rfl⟩ := pm_inj hs
      refine W.cast hx hb (b.2.1.at q2) ((hT 2 q3).1 n (fun j => .int (f j))) (fun q => by cases q) (by show ¬ (_ < 0 ∨ (arrV _ _ _).slots.size ≤ _); rw [arrV_size]; exact pm_ixin q4) rfl rfl hdg fun H1 e z oq => kk _ _ _ _ _ (pm_bes_st b q2 rfl ?_ z oq)
      show H1[_]? = some (vp_cell _ _)
      rw [e]
      exact congrArg some (pm_up_i _ _ _ _ _)
    · cases hs
  | bastore =>
    obtain rfl := pm_lnof (k := 0) rfl hlen
    simp only [pm_st1] at hs
    split at hs
    · obtain ⟨e1, q1, hs⟩ := pm_bind_some hs
      obtain ⟨n, f, q2, q3, q4, rfl⟩ := pm_sti_some q1
      obtain ⟨rfl, rfl, rfl, rfl⟩ := pm_inj hs
      refine W.zast hx hb (b.2.1.at q2) ((hT 3 q3).1 n (fun j => .int (f j))) (fun q => by cases q) (by show ¬ (_ < 0 ∨ (arrV _ _ _).slots.size ≤ _); rw [arrV_size]; exact pm_ixin q4) rfl rfl hdg fun H1 e z oq => kk _ _ _ _ _ (pm_bes_st b q2 rfl ?_ z oq)
      show H1[_]? = some (vp_cell _ _)
      rw [e]
      exact congrArg some (pm_up_i _ _ _ _ _)
    · cases hs
  | lastore =>
    obtain rfl := pm_lnof (k := 0) rfl hlen
    simp only [pm_st1] at hs
    split at hs
    · obtain ⟨e1, q1, hs⟩ := pm_bind_some hs
      obtain ⟨n, f, q2, q3, q4, rfl⟩ := pm_stl_some q1
      obtain ⟨rfl, rfl, rfl, rfl⟩ := pm_inj hs
      refine W.last hx hb (b.2.1.at q2) ((hT 1 q3).1 n (fun j => .long (f j))) (fun q => by cases q) (by show ¬ (_ < 0 ∨ (arrV _ _ _).slots.size ≤ _); rw [arrV_size]; exact pm_ixin q4) rfl rfl hdg fun H1 e z oq => kk _ _ _ _ _ (pm_bes_st b q2 rfl ?_ z oq)
      show H1[_]? = some (vp_cell _ _)
      rw [e]
      exact congrArg some (pm_up_l _ _ _ _ _)
    · cases hs
  | aastore =>
    obtain rfl := pm_lnof (k := 0) rfl hlen
    simp only [pm_st1] at hs
    split at hs
    · rename_i v i a r
      obtain ⟨e1, q1, hs⟩ := pm_bind_some hs
      obtain ⟨k, n, f, fs, q2, q5, q3, q4, rfl⟩ := pm_sta_some q1
      obtain ⟨rfl, rfl, rfl, rfl⟩ := pm_inj hs
      have hin := pm_ixin q4
      have hlt : i.toNatClampNeg < n := Nat.not_le.mp fun q => hin (Or.inr q)
      have h0 : ¬ i < 0 := fun q => hin (Or.inl q)
      obtain ⟨r', hr', cellV, g1, g2, g3, -⟩ := b.2.1.at q5
      obtain ⟨kA, comp, k1, k2, k3, -⟩ := (hT (k + 4) q3).2
      have hcls := (hK.1 _ _ hr').2
      have hcomp : comp = D.1 (pm_oci k) := Option.some.inj (k3.symm.trans (by rw [pm_V_o hr']; exact hcls.1))
      subst hcomp
      obtain ⟨kC, hkC, -⟩ := hcls.2
      refine W.aast hx hb (b.2.1.at q2) (fun q h => by cases h) (fun h => by cases h) k1 k2 rfl hkC ⟨h0, by show _ < (arrV _ _ _).slots.size; rw [arrV_size]; exact hlt⟩ g1 (fun q h => by rw [g3] at h; cases h) (by rw [g2]; exact hkC) (by rw [g2]; exact va_assign hcls) rfl rfl hdg fun H1 e z oq => kk _ _ _ _ _ (pm_bes_st b q2 rfl ?_ z oq)
      show H1[_]? = some (vp_cell _ _)
      rw [e]
      exact congrArg some (pm_up_q _ _ _ _ _)
    · cases hs
  | arraylength =>
    obtain rfl := pm_lnof (k := 0) rfl hlen
    have hq := pm_a1_some hs; clear hs; obtain ⟨a, r, rfl, hs⟩ := hq
    cases hlj : Nat.beq j pm_lj with
    | true =>
      rw [hlj] at hs
      dsimp only [cond_true] at hs
      split at hs
      · rename_i ha
        subst ha
        obtain ⟨rfl, rfl, rfl, rfl⟩ := pm_inj hs
        obtain ⟨scr, h1, h2, h3, h4, h5⟩ := b.2.1.2.2.1
        exact W.alen (n := Int32.ofNat X.2.1) hx hb h1 h2 (by rw [h4] <;> rfl) rfl rfl hdg (kk _ _ _ _ _ b)
      · cases hs
    | false =>
      rw [hlj] at hs
      dsimp only [cond_false] at hs
      obtain ⟨v, q1, hs⟩ := pm_bind_some hs
      obtain ⟨t, n, x, q2, q3, rfl⟩ := pm_len_some q1
      obtain ⟨rfl, rfl, rfl, rfl⟩ := pm_inj hs
      exact va_alen (D := D) (tys := [(cA t, pm_ty t)]) (a := a) (x := (n, x)) hx hb ⟨hK.1, fun k q hk => by
        cases k with
        | zero => simp at hk; subst hk; exact hT t q3
        | succ k => simp at hk⟩ (pm_one (b.2.1.at q2)) 0 0 rfl rfl rfl hdg (kk _ _ _ _ _ b)
  | new k =>
    obtain rfl := pm_lnof (k := 2) rfl hlen
    simp only [pm_st1] at hs
    split at hs
    · rename_i ci hci
      obtain ⟨rfl, rfl, rfl, rfl⟩ := pm_inj hs
      obtain ⟨Cn, T, N, h1, h2, h3, h4, h5, h6, h7, h8⟩ := pm_V_n hci
      have hKn := hK.1 ci _ h1
      obtain ⟨b1, b2, b3, b4, b5⟩ := b
      rw [pm_sl_push] at hRs
      rw [List.length_append, List.length_singleton] at hRc
      have hsz : pm_sz (.inr (ci, pm_cf ci)) = N := h8
      rw [hsz] at hRs
      refine W.newcK hx hb hown (hts _ h4) (hts _ h5) (hts _ h6) rfl hdg (by omega) (by omega) hKn.2.1 b2.1 fun H1 kC hkC e1 z1 o1 => kk _ _ _ _ _ ⟨b1, b2.push (?_ : va_at D pm_cls (H.size, .inr (ci, pm_cf ci)) H1) (by rw [z1, b2.1]) (fun q hq => o1 q (by rw [← b2.1]; exact hq)), b3, by rw [List.length_append, List.length_singleton]; omega, by rw [pm_sl_push, hsz]; omega⟩
      refine ⟨_, h1, (u_born (pm_ft ci) hts h2 hKn hkC (o := H.size) (by rw [b2.1]; exact e1) h3).to h7⟩
    · cases hs
  | newarray t =>
    obtain rfl := pm_lnof (k := 1) rfl hlen
    simp only [pm_st1] at hs
    split at hs
    · rename_i t0 ht0
      have hq := pm_i1_some hs; clear hs; obtain ⟨n, r, rfl, hs⟩ := hq
      split at hs
      · rename_i hq
        obtain ⟨rfl, rfl, rfl, rfl⟩ := pm_inj hs
        obtain ⟨hq1, hq2⟩ := hq
        have hin := pm_ixin hq2
        have hlt : n.toNatClampNeg < 65536 := Nat.not_le.mp fun q => hin (Or.inr q)
        have h0 : ¬ n < 0 := fun q => hin (Or.inl q)
        obtain ⟨b1, b2, b3, b4, b5⟩ := b
        rw [pm_sl_push] at hRs
        rw [List.length_append, List.length_singleton] at hRc
        have hty : newarray.typeOf t = pm_ty t0 := by cases t <;> cases ht0 <;> rfl
        have hsz : pm_sz (pm_new0 t0 n.toNatClampNeg) = n.toNatClampNeg := by cases t <;> cases ht0 <;> rfl
        have hbt : n.toNatClampNeg * componentBytes (newarray.typeOf t) ≤ 536870912 := by
          have : componentBytes (newarray.typeOf t) ≤ 8 := by cases t <;> decide
          exact Nat.le_trans (Nat.mul_le_mul (Nat.le_of_lt hlt) this) (by decide)
        rw [hsz] at hRs
        refine va_newaK hx hb (hts _ (pm_V_a ht0)) rfl hdg rfl h0 rfl hbt (by omega) (by omega) b2.1 fun H1 cB e1 z1 o1 hAr hNm => kk _ _ _ _ _ ⟨b1, b2.push ?_ (by rw [z1, b2.1]) (fun q hq => o1 q (by rw [← b2.1]; exact hq)), b3, by rw [List.length_append, List.length_singleton]; omega, by rw [pm_sl_push, hsz]; omega⟩
        have hcB : cB = cA t0 := by
          have h9 := (hT t0 hq1).2
          rw [hty] at hNm
          refine Option.some.inj (hNm.symm.trans ?_)
          cases t <;> cases ht0 <;> exact h9
        subst hcB
        rw [b2.1]
        cases t <;> cases ht0 <;> exact e1
      · cases hs
    · cases hs
  | anewarray k =>
    obtain rfl := pm_lnof (k := 2) rfl hlen
    simp only [pm_st1] at hs
    split at hs
    · rename_i t0 ht0
      have hq := pm_i1_some hs; clear hs; obtain ⟨n, r, rfl, hs⟩ := hq
      split at hs
      · rename_i hq
        obtain ⟨rfl, rfl, rfl, rfl⟩ := pm_inj hs
        obtain ⟨hq1, hq2⟩ := hq
        have hin := pm_ixin hq2
        have hlt : n.toNatClampNeg < 65536 := Nat.not_le.mp fun q => hin (Or.inr q)
        have h0 : ¬ n < 0 := fun q => hin (Or.inl q)
        obtain ⟨b1, b2, b3, b4, b5⟩ := b
        rw [pm_sl_push] at hRs
        rw [List.length_append, List.length_singleton] at hRc
        have hsz : pm_sz (pm_new0 (t0 + 4) n.toNatClampNeg) = n.toNatClampNeg := rfl
        rw [hsz] at hRs
        refine W.anew hx hb hown (hts _ (pm_V_q ht0)) (va_AO.use (hAO t0 hq1)) rfl hdg rfl h0 (by omega) (by omega) (by omega) fun cB kA comp f1 f2 f3 f4 => ?_
        have hcB : cB = cA (t0 + 4) := by
          obtain ⟨_, _, -, -, -, h9⟩ := (hT (t0 + 4) hq1).2
          exact Option.some.inj (f1.symm.trans h9)
        subst hcB
        generalize hH1 : H.push ({ cls := cA (t0 + 4), slots := Array.replicate n.toNatClampNeg .null, vm := .none } : Cell) = H1
        have z1 : H1.size = H.size + 1 := by rw [← hH1, Array.size_push]
        have e1 : H1[H.size]? = some (arrV (cA (t0 + 4)) n.toNatClampNeg (fun _ => .null)) := by rw [← hH1, Array.getElem?_push_size, ← arrV_new]
        have o1 : ∀ q : Nat, q < H.size → H1[q]? = H[q]? := fun q hq => by rw [← hH1, Array.getElem?_push, if_neg (Nat.ne_of_lt hq)]
        have k9 := kk ls H1 locs (cells + 1) (slots + n.toNatClampNeg) ⟨b1, b2.push (e := pm_new0 (t0 + 4) n.toNatClampNeg) e1 z1 o1, b3, by rw [List.length_append, List.length_singleton]; omega, by rw [pm_sl_push, hsz]; omega⟩
        rw [← b2.1] at k9
        exact k9
      · cases hs
    · cases hs
  | invokestatic k =>
    obtain rfl := pm_lnof (k := 2) rfl hlen
    have hmm : c.maxLocals = ls.size := by rw [hml]; exact (bl.1.trans bl.2.2.2).symm
    have hb4 := b.2.2.2.1
    have hb5 := b.2.2.2.2
    simp only [pm_st1] at hs
    cases hmt : pm_mt j k with
    | none => rw [hmt] at hs; cases hs
    | some t =>
      rw [hmt] at hs
      have hk := pm_V_mt hmt
      revert hs
      match t, hk with
      | 0, hk =>
        intro hs
        have hq := pm_i1_some hs; clear hs; obtain ⟨x, r, rfl, hs⟩ := hq
        split at hs
        · rename_i hw
          obtain ⟨rfl, rfl, rfl, rfl⟩ := pm_inj hs
          exact va_mabs hx hb hmm hown (hts _ hk.2) (hts _ (pm_inm pm_V_mw.1.1 rfl)) (hts _ (pm_inm pm_V_mw.2.1 rfl)) (hts _ (pm_inm pm_V_mw.2.2.1 rfl)) (by omega) (show pm_w r + 13 ≤ R.locals by omega) (by omega) (by omega) hdg (kk _ _ _ _ _ b)
        · cases hs
      | 1, hk =>
        intro hs
        have hq := pm_l1_some hs; clear hs; obtain ⟨x, r, rfl, hs⟩ := hq
        split at hs
        · rename_i hw
          obtain ⟨rfl, rfl, rfl, rfl⟩ := pm_inj hs
          exact va_mabs_long hx hb hmm hown (hts _ hk.2) (hts _ (pm_inm pm_V_mw.1.2.1 rfl)) (hts _ (pm_inm pm_V_mw.2.1 rfl)) (hts _ (pm_inm pm_V_mw.2.2.2.1 rfl)) (by omega) (show pm_w r + 13 ≤ R.locals by omega) (by omega) (by omega) hdg (kk _ _ _ _ _ b)
        · cases hs
      | 2, hk =>
        intro hs
        have hq := pm_i2_some hs; clear hs; obtain ⟨x, y, r, rfl, hs⟩ := hq
        split at hs
        · rename_i hw
          obtain ⟨rfl, rfl, rfl, rfl⟩ := pm_inj hs
          exact va_mmax hx hb hmm hown (hts _ hk.2) (hts _ (pm_inm pm_V_mw.1.2.2.1 rfl)) (hts _ (pm_inm pm_V_mw.2.1 rfl)) (hts _ (pm_inm pm_V_mw.2.2.2.2.1 rfl)) (by omega) (show pm_w r + 13 ≤ R.locals by omega) (by omega) (by omega) hdg (kk _ _ _ _ _ b)
        · cases hs
      | 3, hk =>
        intro hs
        have hq := pm_i2_some hs; clear hs; obtain ⟨x, y, r, rfl, hs⟩ := hq
        split at hs
        · rename_i hw
          obtain ⟨rfl, rfl, rfl, rfl⟩ := pm_inj hs
          exact va_mmin hx hb hmm hown (hts _ hk.2) (hts _ (pm_inm pm_V_mw.1.2.2.2 rfl)) (hts _ (pm_inm pm_V_mw.2.1 rfl)) (hts _ (pm_inm pm_V_mw.2.2.2.2.2 rfl)) (by omega) (show pm_w r + 13 ≤ R.locals by omega) (by omega) (by omega) hdg (kk _ _ _ _ _ b)
        · cases hs
      | t + 4, hk => exact absurd hk.1 (by omega)
  | invokespecial k =>
    obtain rfl := pm_lnof (k := 2) rfl hlen
    simp only [pm_st1] at hs
    split at hs
    · rename_i a r hk
      split at hs
      · rename_i hw
        obtain ⟨rfl, rfl, rfl, rfl⟩ := pm_inj hs
        obtain ⟨w1, w2, w3⟩ := pm_V_ob hk
        exact W.objInit hx hb hown (hts _ w1) (hts _ w2) (hts _ w3) rfl (by rw [hml]; exact bl.1.trans bl.2.2.2) rfl hdg (by omega) (by show 2 * 0 + pm_w r + 12 ≤ R.locals; omega) (kk _ _ _ _ _ b)
      · cases hs
    · cases hs
  | _ => cases hs
end PMC

/-! THE REAL MACHINE FOLLOWS THE PURE ONE, b: one step inside a method. -/
def pm_C (D : va_G) (cA : Nat → ClassId) (p : Program) (R : Room) (s : State) (m : MethodId) (args : Array Value) (meth : Method) (c : Code) (j : Nat) : Prop :=
  p.tables.exec = Jvm.exec ∧ c.code = pm_by j ∧ c.maxLocals = pm_ml j ∧ s.vm.findClass (pm_ow j) = some m.cls ∧ (∀ w ∈ pm_ws, w.before args s = true) ∧ (∀ w ∈ pm_nws, va_Nw w s) ∧ (pm_kd j = 2 → meth.name = "<init>") ∧
  pm_dep j + 1 ≤ R.frames ∧ pm_loc j ≤ R.locals ∧ 24 ≤ pm_loc j ∧ va_K D pm_cls [] s ∧ (∀ t, pm_tok t = true → ArrOfT s (cA t) (pm_ty t) ∧ va_RA s (cA t) (pm_ty t)) ∧ (∀ k, pm_tok (k + 4) = true → va_AO (pm_oc k) s)
section PMB
variable {p : Program} {l : Launch} {e : Env} {R : Room} {s : State} {m : MethodId} {args : Array Value} {below : List Frame} {meth : Method} {c : Code} {H : Heap} {locs : List Loc} {cells slots : Nat} {Q : State → Prop}
variable {pc : Nat} {ls : Array Slot} {D : va_G} {cA : Nat → ClassId} {B : Nat} {X : pm_X} {j : Nat} {lv lv' : pm_L} {st st' : List Value} {h h' : pm_H} {nL n0 s0 len pc' : Nat}
/-- the state of the real machine beside that of the pure one -/
def pm_Bes (D : va_G) (cA : Nat → ClassId) (B : Nat) (X : pm_X) (s : State) (nL n0 s0 : Nat) (lv : pm_L) (h : pm_H) (ls : Array Slot) (H : Heap) (locs : List Loc) (cells slots : Nat) : Prop :=
  pm_lok nL ls lv ∧ pm_Rp D cA B X s h H ∧ (∀ q ∈ locs, B ≤ q.base) ∧ n0 + cells = h.length ∧ s0 + slots = pm_sl h
theorem pm_bes_st {lv : pm_L} {a : Nat} {x : Nat} {e0 e1 : pm_E} {H1 : Heap} (b : pm_Bes D cA B X s nL n0 s0 lv h ls H locs cells slots) (q : pm_at B h a = some e0) (hz : pm_sz e1 = pm_sz e0) (ha : va_at D pm_cls (a, pm_e cA e1) H1) (h1 : H1.size = H.size) (ho : ∀ q : Nat, q ≠ a → H1[q]? = H[q]?) :
    pm_Bes D cA B X s nL n0 s0 lv (pm_set B h a e1) ls H1 (locs ++ [⟨a, x⟩]) cells slots := by
  obtain ⟨b1, b2, b3, b4, b5⟩ := b
  refine ⟨b1, b2.set q ha h1 ho, fun y hy => ?_, by rw [b4]; simp [pm_set], by rw [b5, pm_sl_set q hz]⟩
  rcases List.mem_append.mp hy with hy | hy
  · exact b3 y hy
  · rw [List.mem_singleton.mp hy]
    exact (pm_at_some q).1
theorem pm_gf_some {e : Option pm_E} {ci k : Nat} {v : Value} (q : pm_gf e ci k = some v) : ∃ fs, e = some (.inr (ci, fs)) ∧ fs[k]? = some v := by
  unfold pm_gf at q
  split at q
  · split at q
    · rename_i h1; subst h1; exact ⟨_, rfl, q⟩
    · cases q
  · cases q
theorem pm_pf_some {e : Option pm_E} {ci k : Nat} {v : Value} {e1 : pm_E} (q : pm_pf e ci k v = some e1) : ∃ fs, e = some (.inr (ci, fs)) ∧ k < fs.length ∧ narrow (pm_ft ci k) v = v ∧ fits (pm_ft ci k) v = true ∧ e1 = .inr (ci, fs.set k v) := by
  unfold pm_pf at q
  split at q
  · split at q
    · rename_i h1
      obtain ⟨rfl, h2, h3, h4⟩ := h1
      cases q
      exact ⟨_, rfl, h2, h3, h4, rfl⟩
    · cases q
  · cases q
theorem pm_ldi_some {e : Option pm_E} {t : Nat} {i : Int32} {v : Value} (q : pm_ldi t e i = some v) : ∃ n f, e = some (.inl (t, n, .inl f)) ∧ pm_tok t = true ∧ pm_ix i n = true ∧ v = .int (f i.toNatClampNeg) := by
  unfold pm_ldi at q
  split at q
  · split at q
    · rename_i h1
      obtain ⟨rfl, h2, h3⟩ := h1
      cases q
      exact ⟨_, _, rfl, h2, h3, rfl⟩
    · cases q
  · cases q
theorem pm_ldl_some {e : Option pm_E} {i : Int32} {v : Value} (q : pm_ldl e i = some v) : ∃ n f, e = some (.inl (1, n, .inr (.inl f))) ∧ pm_tok 1 = true ∧ pm_ix i n = true ∧ v = .long (f i.toNatClampNeg) := by
  unfold pm_ldl at q
  split at q
  · split at q
    · rename_i h1
      cases q
      exact ⟨_, _, rfl, h1.1, h1.2, rfl⟩
    · cases q
  · cases q
theorem pm_lda_some {e : Option pm_E} {i : Int32} {v : Value} (q : pm_lda e i = some v) : ∃ k n f, e = some (.inl (k + 4, n, .inr (.inr (.inr (.inr f))))) ∧ pm_tok (k + 4) = true ∧ pm_ix i n = true ∧ v = va_rf (f i.toNatClampNeg) := by
  unfold pm_lda at q
  split at q
  · split at q
    · rename_i h1
      cases q
      exact ⟨_, _, _, rfl, h1.1, h1.2, rfl⟩
    · cases q
  · cases q
theorem pm_sti_some {e : Option pm_E} {t : Nat} {i x : Int32} {e1 : pm_E} (q : pm_sti t e i x = some e1) : ∃ n f, e = some (.inl (t, n, .inl f)) ∧ pm_tok t = true ∧ pm_ix i n = true ∧ e1 = .inl (t, n, .inl (upd f i.toNatClampNeg (vp_nar (pm_ty t) x))) := by
  unfold pm_sti at q
  split at q
  · split at q
    · rename_i h1
      obtain ⟨rfl, h2, h3⟩ := h1
      cases q
      exact ⟨_, _, rfl, h2, h3, rfl⟩
    · cases q
  · cases q
theorem pm_stl_some {e : Option pm_E} {i : Int32} {x : Int64} {e1 : pm_E} (q : pm_stl e i x = some e1) : ∃ n f, e = some (.inl (1, n, .inr (.inl f))) ∧ pm_tok 1 = true ∧ pm_ix i n = true ∧ e1 = .inl (1, n, .inr (.inl (vp_updL f i.toNatClampNeg x))) := by
  unfold pm_stl at q
  split at q
  · split at q
    · rename_i h1
      cases q
      exact ⟨_, _, rfl, h1.1, h1.2, rfl⟩
    · cases q
  · cases q
theorem pm_sta_some {e ev : Option pm_E} {i : Int32} {v : Nat} {e1 : pm_E} (q : pm_sta e i v ev = some e1) : ∃ k n f fs, e = some (.inl (k + 4, n, .inr (.inr (.inr (.inr f))))) ∧ ev = some (.inr (pm_oci k, fs)) ∧ pm_tok (k + 4) = true ∧ pm_ix i n = true ∧ e1 = .inl (k + 4, n, .inr (.inr (.inr (.inr (va_up f i.toNatClampNeg (some v)))))) := by
  unfold pm_sta at q
  split at q
  · split at q
    · rename_i h1
      obtain ⟨rfl, h2, h3⟩ := h1
      cases q
      exact ⟨_, _, _, _, rfl, rfl, h2, h3, rfl⟩
    · cases q
  · cases q
theorem pm_len_some {e : Option pm_E} {v : Value} (q : pm_len e = some v) : ∃ t n x, e = some (.inl (t, n, x)) ∧ pm_tok t = true ∧ v = .int (Int32.ofNat n) := by
  unfold pm_len at q
  split at q
  · split at q
    · rename_i h1
      cases q
      exact ⟨_, _, _, rfl, h1, rfl⟩
    · cases q
  · cases q
end PMB
theorem pm_V_a {t : ArrayType} {t0 : Nat} (h : pm_nty t = some t0) : Cond.arrayClass (newarray.typeOf t) ∈ pm_ws := by
  cases t <;> first | (cases h; done) | exact pm_inm pm_V_a0.1 rfl | exact pm_inm pm_V_a0.2.1 rfl | exact pm_inm pm_V_a0.2.2.1 rfl | exact pm_inm pm_V_a0.2.2.2 rfl

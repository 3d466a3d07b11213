/-! ROWS FOR WALKS: the heap's reads behind writes, arrays, locals, small things. -/
def pm_v (B : Nat) (h : pm_H) (a : Nat) : Prop := B ≤ a ∧ a - B < h.length
section PMS
variable {B : Nat} {h : pm_H} {a q : Nat} {e x : pm_E}
theorem pm_v_at (k : pm_at B h a = some x) : pm_v B h a := by
  obtain ⟨k1, k2⟩ := pm_at_some k
  exact ⟨k1, (List.getElem?_eq_some_iff.mp k2).1⟩
theorem pm_len_set : (pm_set B h a e).length = h.length := by simp [pm_set]
theorem pm_at_self (hv : pm_v B h a) : pm_at B (pm_set B h a e) a = some e := by
  unfold pm_at pm_set
  rw [if_neg (by have := hv.1; omega), List.getElem?_set_self hv.2]
theorem pm_at_ne (hv : pm_v B h a) (hq : ¬ q = a) : pm_at B (pm_set B h a e) q = pm_at B h q := by
  unfold pm_at pm_set
  split
  · rfl
  · rw [List.getElem?_set_ne (by have := hv.1; omega)]
theorem pm_v_set : pm_v B (pm_set B h a e) q ↔ pm_v B h q := by
  unfold pm_v
  rw [pm_len_set]
theorem pm_at_old (hv : pm_v B h q) : pm_at B (h ++ [e]) q = pm_at B h q := by
  unfold pm_at
  split
  · rfl
  · rw [List.getElem?_append_left hv.2]
theorem pm_at_new : pm_at B (h ++ [e]) (B + h.length) = some e := by
  unfold pm_at
  rw [if_neg (by omega), Nat.add_sub_cancel_left, List.getElem?_append_right (Nat.le_refl _), Nat.sub_self]
  rfl
theorem pm_v_old (hv : pm_v B h q) : pm_v B (h ++ [e]) q := ⟨hv.1, by have := hv.2; simp; omega⟩
theorem pm_v_new : pm_v B (h ++ [e]) (B + h.length) := ⟨by omega, by simp⟩
end PMS
-- words on the stack, locals that are overwritten
theorem pm_w_nil : pm_w [] = 0 := rfl
theorem pm_w_i {x : Int32} {st : List Value} : pm_w (.int x :: st) = 1 + pm_w st := by simp [pm_w, Value.category]
theorem pm_w_l {x : Int64} {st : List Value} : pm_w (.long x :: st) = 2 + pm_w st := by simp [pm_w, Value.category]
theorem pm_w_r {x : Nat} {st : List Value} : pm_w (.ref x :: st) = 1 + pm_w st := by simp [pm_w, Value.category]
theorem pm_w_n {st : List Value} : pm_w (.null :: st) = 1 + pm_w st := by simp [pm_w, Value.category]
theorem pm_c_n : pm_c none = none := rfl
theorem pm_c_i {x : Int32} : pm_c (some (.int x)) = some (.int x) := rfl
theorem pm_c_l {x : Int64} : pm_c (some (.long x)) = none := rfl
theorem pm_c_r {x : Nat} : pm_c (some (.ref x)) = some (.ref x) := rfl
theorem pm_c_u : pm_c (some .null) = some .null := rfl
-- places in arrays
theorem pm_ix_of {k n : Nat} (h : k < n) (hn : n < 2 ^ 31) : pm_ix (nI k) n = true := by
  unfold pm_ix
  rw [nI_toInt (by omega)]
  simp
  omega
theorem pm_ix_iff {x : Int32} {n : Nat} : pm_ix x n = true ↔ 0 ≤ x.toInt ∧ x.toInt < n := by simp [pm_ix]
theorem ld_i {t n : Nat} {f : Nat → Int32} {i : Int32} (h : pm_ix i n = true) (ht : pm_tok t = true) : pm_ldi t (some (.inl (t, n, .inl f))) i = some (.int (f i.toNatClampNeg)) := if_pos ⟨rfl, ht, h⟩
theorem ld_l {n : Nat} {f : Nat → Int64} {i : Int32} (h : pm_ix i n = true) : pm_ldl (some (.inl (1, n, .inr (.inl f)))) i = some (.long (f i.toNatClampNeg)) := if_pos ⟨rfl, h⟩
theorem ld_a {k n : Nat} {f : Nat → Option Nat} {i : Int32} (h : pm_ix i n = true) (ht : pm_tok (k + 4) = true) : pm_lda (some (.inl (k + 4, n, .inr (.inr (.inr (.inr f)))))) i = some (va_rf (f i.toNatClampNeg)) := if_pos ⟨ht, h⟩
theorem st_i {t n : Nat} {f : Nat → Int32} {i x : Int32} (h : pm_ix i n = true) (ht : pm_tok t = true) : pm_sti t (some (.inl (t, n, .inl f))) i x = some (.inl (t, n, .inl (upd f i.toNatClampNeg (vp_nar (pm_ty t) x)))) := if_pos ⟨rfl, ht, h⟩
theorem st_l {n : Nat} {f : Nat → Int64} {i : Int32} {x : Int64} (h : pm_ix i n = true) : pm_stl (some (.inl (1, n, .inr (.inl f)))) i x = some (.inl (1, n, .inr (.inl (vp_updL f i.toNatClampNeg x)))) := if_pos ⟨rfl, h⟩
theorem st_a {k n v : Nat} {f : Nat → Option Nat} {i : Int32} {fs : List Value} (h : pm_ix i n = true) (ht : pm_tok (k + 4) = true) : pm_sta (some (.inl (k + 4, n, .inr (.inr (.inr (.inr f)))))) i v (some (.inr (pm_oci k, fs))) = some (.inl (k + 4, n, .inr (.inr (.inr (.inr (va_up f i.toNatClampNeg (some v))))))) := if_pos ⟨rfl, ht, h⟩
theorem ln_a {t n : Nat} {x} (ht : pm_tok t = true) : pm_len (some (.inl (t, n, x))) = some (.int (Int32.ofNat n)) := if_pos ht

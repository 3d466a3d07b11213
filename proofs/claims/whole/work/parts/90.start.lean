/-! THE LAW'S WALK OUT OF THE PURE RUN: what is left is law_pure (the pure run of the law answers 1 within the room). -/
theorem pm_inst0 : (List.range 11).all (fun ci => match pm_cls[ci]? with
  | none => true
  | some (C, _, N) => decide (Cond.instantiable C N ∈ lw_tbl)) = true := by decide +kernel
theorem pm_inst {ci : Nat} {C : String} {T : u_T} {N : Nat} (h : pm_cls[ci]? = some (C, T, N)) : Cond.instantiable C N ∈ lw_tbl := by
  have hl : ci < 11 := (List.getElem?_eq_some_iff.mp h).1
  have h1 := List.all_eq_true.mp pm_inst0 ci (List.mem_range.mpr hl)
  rw [h] at h1
  exact of_decide_eq_true h1
theorem pm_over0 : Cond.arrayOver (.object (pm_oc 0)) ∈ lw_tbl ∧ Cond.arrayOver (.object (pm_oc 1)) ∈ lw_tbl := by decide +kernel
theorem pm_over {k : Nat} (h : pm_tok (k + 4) = true) : Cond.arrayOver (.object (pm_oc k)) ∈ lw_tbl := by
  match k, h with
  | 0, _ => exact pm_over0.1
  | 1, _ => exact pm_over0.2
  | k + 2, h => exact absurd (Nat.le_of_ble_eq_true h) (by omega)
theorem pm_known {s : State} {args : Array Value} (hts : ∀ w ∈ lw_tbl, w.before args s = true) : ∃ D : va_G, va_K D pm_cls [] s := by
  have h : ∀ ci : Nat, ∃ (cC : ClassId) (iS : Nat → Nat), ∀ q : vw_C, pm_cls[ci]? = some q → u_Kn s q.1 q.2.1 q.2.2 cC iS := by
    intro ci
    cases hq : pm_cls[ci]? with
    | none => exact ⟨0, fun _ => 0, fun q h => by cases h⟩
    | some q =>
      obtain ⟨C, T, N⟩ := q
      obtain ⟨cC, iS, hK⟩ := u_known (C := C) (T := T) (N := N) (n := N) hts (fun w hw => (List.mem_filter.mp ((pm_V_cl hq).1 w hw)).1) (hts _ (pm_inst hq))
      exact ⟨cC, iS, fun q h => by cases h; exact hK⟩
  exact ⟨(fun ci => Classical.choose (h ci), fun ci => Classical.choose (Classical.choose_spec (h ci))), fun ci q hq => Classical.choose_spec (Classical.choose_spec (h ci)) q hq, fun k q hk => by simp at hk⟩
theorem pm_arrs {s : State} {args : Array Value} (hts : ∀ w ∈ lw_tbl, w.before args s = true) : ∃ cA : Nat → ClassId, ∀ t, pm_tok t = true → ArrOfT s (cA t) (pm_ty t) ∧ va_RA s (cA t) (pm_ty t) := by
  have key : ∀ ty : FieldType, (∀ C, ty ≠ .object C) → (Cond.arrayClass ty).before args s = true → ∃ c, ArrOfT s c ty ∧ va_RA s c ty := by
    intro ty hn hw
    obtain ⟨c, k, comp, h1, h2, h3⟩ := Cond.arrayClass_spec hw
    refine ⟨c, fun n z => ⟨fun k h => (by cases h), k, h2, comp, h3⟩, ?_⟩
    cases ty <;> first | exact h1 | exact absurd rfl (hn _)
  have h : ∀ t : Nat, ∃ c : ClassId, pm_tok t = true → ArrOfT s c (pm_ty t) ∧ va_RA s c (pm_ty t) := by
    intro t
    match t with
    | 0 => obtain ⟨c, h⟩ := key .int (by simp) (hts _ pm_V_a0.1); exact ⟨c, fun _ => h⟩
    | 1 => obtain ⟨c, h⟩ := key .long (by simp) (hts _ pm_V_a0.2.1); exact ⟨c, fun _ => h⟩
    | 2 => obtain ⟨c, h⟩ := key .char (by simp) (hts _ pm_V_a0.2.2.1); exact ⟨c, fun _ => h⟩
    | 3 => obtain ⟨c, h⟩ := key .boolean (by simp) (hts _ pm_V_a0.2.2.2); exact ⟨c, fun _ => h⟩
    | k + 4 =>
      by_cases hk : pm_tok (k + 4) = true
      · obtain ⟨comp, c, kA, h1, h2, h3, h4, h5⟩ := Cond.arrayOver_spec (hts _ (pm_over hk))
        exact ⟨c, fun _ => ⟨fun n z => ⟨fun k h => (by cases h), kA, h3, comp, h4⟩, kA, comp, h3, h4, h1, h5⟩⟩
      · exact ⟨0, fun h => absurd h hk⟩
  exact ⟨fun t => Classical.choose (h t), fun t ht => Classical.choose_spec (h t) ht⟩
set_option maxHeartbeats 4000000 in
theorem whole_start_of {p : Program} {e : Env} {s : State} {m : MethodId} {below : List Frame} {meth : Method} {c : Code} (l : Launch) {b L : Nat} {xs : Nat → Int32} (C0 : lw_At p s m meth c b L xs)
    (hpure : PW s.heap.size (b, L, xs) pm_lj 0 [some (.ref b), none, none, none] [] [] (fun r h' => r = some (.int 1) ∧ h'.length ≤ 600000 ∧ pm_sl h' ≤ 7302250)) : W p l e room_1 s m #[Value.ref b] below meth c s.heap [] 0 0 (lw_Z below #[Value.ref b] s) (entryFrame m ([Value.ref b] : List Value).toArray 4) := by
  obtain ⟨hx, hb, hr, hml, hown, hts, hX, hbl, hlocks, hgv⟩ := C0
  obtain ⟨D, hK⟩ := pm_known hts
  obtain ⟨cA, hA⟩ := pm_arrs hts
  obtain ⟨n, ⟨r, h'⟩, hrun, hr1, hc1, hs1⟩ := hpure
  dsimp only at hr1 hc1 hs1
  subst hr1
  rw [lg_entry_eq]
  refine pm_sound l D cA s.heap.size (b, L, xs) n pm_lj 0 _ [] [] (some (.int 1)) h' hrun p e room_1 s m _ below meth c s.heap [] 0 0 _ _ 0 0
    ⟨hx, hb, hml, hown, fun w hw => hts w (List.mem_filter.mp hw).1, fun w hw => va_Nw.of (pm_nw_on hw).1 (hts w (List.mem_filter.mp hw).1), fun h => (by cases h), (by decide), (by decide), (by decide), hK, hA, fun k hk => va_AO.of (hts _ (pm_over hk))⟩
    ⟨pm_lok_entry (vs := [.ref b]) (n := 4) (Nat.le_of_ble_eq_true rfl), ⟨rfl, fun i e h => by simp at h, hX, hbl, fun q _ => rfl⟩, fun q hq => (by cases hq), rfl, rfl⟩ (by show h'.length ≤ 0 + 600000; omega) (by show pm_sl h' ≤ 0 + 7302250; omega) ?_
  intro pc' i st' ls' H' locs' cells' slots' hd hrt hR2 hloc hc2 hs2
  refine va_forget hloc (W.widen (k := 600000) (n := 7302250) (by omega) (by omega) ?_)
  cases i with
  | ireturn =>
    simp only [pm_rt] at hrt
    split at hrt
    · have : ∀ v : Int32, (match pm_rty pm_lj with
        | some .int => some (some (Value.int v))
        | some ty => if (ty = .boolean ∨ ty = .char) ∧ narrow ty (.int v) = .int v then some (some (.int v)) else none
        | none => none) = some (some (.int 1)) → v = 1 := by
        intro v hv
        have hv : (if ((FieldType.boolean = .boolean ∨ FieldType.boolean = .char) ∧ narrow .boolean (.int v) = .int v) then some (some (Value.int v)) else none) = some (some (.int 1)) := hv
        split at hv
        · cases hv; rfl
        · cases hv
      obtain rfl := this _ hrt
      exact lw_ret hx hb hr hlocks hd
    · cases hrt
  | return_ =>
    simp only [pm_rt] at hrt
    split at hrt
    · split at hrt <;> cases hrt
    · cases hrt
  | lreturn =>
    simp only [pm_rt] at hrt
    split at hrt
    · split at hrt <;> cases hrt
    · cases hrt
  | areturn =>
    simp only [pm_rt] at hrt
    split at hrt
    · split at hrt <;> cases hrt
    · split at hrt <;> cases hrt
    · cases hrt
  | _ => cases hrt

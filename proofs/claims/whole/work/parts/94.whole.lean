/-! THE LAW, from its entry -/
theorem law_pure {B b L : Nat} {xs : Nat → Int32} (hL : L ≤ 3072) (hb : b < B) : PW B (b, L, xs) pm_lj 0 [some (.ref b), none, none, none] [] [] (fun r h' => r = some (.int 1) ∧ h'.length ≤ 600000 ∧ pm_sl h' ≤ 7302250) := law_all (X := (b, L, xs)) hL
theorem whole_start {p : Program} {e : Env} {s : State} {m : MethodId} {below : List Frame} {meth : Method} {c : Code} (l : Launch) {b L : Nat} {xs : Nat → Int32} (hL : L ≤ 3072) (C0 : lw_At p s m meth c b L xs) : W p l e room_1 s m #[Value.ref b] below meth c s.heap [] 0 0 (lw_Z below #[Value.ref b] s) (entryFrame m ([Value.ref b] : List Value).toArray 4) :=
  whole_start_of l C0 (law_pure hL C0.2.2.2.2.2.2.2.1)

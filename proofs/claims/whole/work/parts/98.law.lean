/-- OPEN: the law on the abstract machine -/
theorem z_law (L : Nat) (hL : L ≤ 320) (xs : Nat → Int32) : ∃ (f : Nat) (h' : zH), h'.1 ≤ 105 ∧ z_x L xs f 30 242 0 [(0, .ref 4000)] [] (0, fun _ _ => 0, fun _ _ => none) = some (some (.int 1), h') := by
  sorry
/-- from the entry, for every script of at most 320 ints, the law comes to its end with true -/
theorem whole_start {p : Program} {e : Env} {s : State} {m : MethodId} {below : List Frame} {meth : Method} {c : Code} (l : Launch) (hflags : l.flags = flags0) {b L : Nat} {xs : Nat → Int32} (hL : L ≤ 320) (C0 : lw_At p s m meth c b L xs) : W p l e room_1 s m #[Value.ref b] below meth c s.heap [] 0 0 (lw_Z below #[Value.ref b] s) (entryFrame m ([Value.ref b] : List Value).toArray 4) :=
  z_whole l C0 (z_law L hL xs)

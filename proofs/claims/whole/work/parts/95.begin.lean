theorem s_fault : Step f_X7_fault f_X8_fault := by
  sorry
theorem s_wood : Step f_X7_wood f_X8_wood := by
  sorry
theorem whole_start {p : Program} {e : Env} {s : State} {m : MethodId} {below : List Frame} {meth : Method} {c : Code} (l : Launch) {b L : Nat} {xs : Nat → Int32} (hL : L ≤ 256) (C0 : lw_At p s m meth c b L xs) : W p l e room_1 s m #[Value.ref b] below meth c s.heap [] 0 0 (lw_Z below #[Value.ref b] s) (entryFrame m ([Value.ref b] : List Value).toArray 4) := whole_open (law_pure s_fault s_wood) l hL C0

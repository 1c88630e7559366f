/-- over every script the law's function comes to its end with true -/
theorem whole_math (xs : Nat → Int32) (L : Nat) (hL : L ≤ 3072) : ∃ (n : Nat) (S1 : z_Stt), f_L_law n xs L S0 = some (true, S1) := by
  sorry
/-- YOUR PART: from the entry, for every script of at most 3072 ints, the law comes to its end with true -/
theorem whole_start {p : Program} {e : Env} {s : State} {m : MethodId} {below : List Frame} {meth : Method} {c : Code} (l : Launch) (hflags : l.flags = flags0) {b L : Nat} {xs : Nat → Int32} (hL : L ≤ 3072) (C0 : lw_At p s m meth c b L xs) : W p l e room_1 s m #[Value.ref b] below meth c s.heap [] 0 0 (lw_Z below #[Value.ref b] s) (entryFrame m ([Value.ref b] : List Value).toArray 4) := whole_open whole_math l hL C0

/-! the claim -/
def NN : Nat := 100000 + bW 47 + tW 47 + 2
theorem whole_start {p : Program} {e : Env} {s : State} {m : MethodId} {below : List Frame} {meth : Method} {c : Code} (l : Launch) (hflags : l.flags = flags0) {b L : Nat} {ss : Nat → Int32} (hL : L ≤ 257) (C0 : lw_At p s m meth c b L ss) : W p l e room_1 s m #[Value.ref b] below meth c s.heap [] 0 0 (lw_Z below #[Value.ref b] s) (entryFrame m ([Value.ref b] : List Value).toArray 7) := by
  have h1 : 100000 ≤ NN := by unfold NN; exact Nat.le_trans (Nat.le_add_right _ _) (Nat.le_trans (Nat.le_add_right _ _) (Nat.le_add_right _ _))
  have h2 : bW 47 + 2 ≤ NN := by unfold NN; generalize bW 47 = x; generalize tW 47 = y; omega
  have h3 : tW 47 + 2 ≤ NN := by unfold NN; generalize bW 47 = x; generalize tW 47 = y; omega
  exact whole_walk NN Inv (hI0 (Nat.le_trans (by decide) h1)) (stp_all h1 h2 h3) l hflags hL C0

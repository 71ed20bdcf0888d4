/-! ===== the start ===== -/
theorem whole_start {p : Program} {e : Env} {s : State} {m : MethodId} {below : List Frame} {meth : Method} {c : Code} (l : Launch) (hlt : l.stackTraces = false) {b L : Nat} {xs : Nat → Int32} (hL : L ≤ 3072) (C0 : lw_At p s m meth c b L xs) : W p l e room_1 s m #[Value.ref b] below meth c s.heap [] 0 0 (lw_Z below #[Value.ref b] s) (entryFrame m ([Value.ref b] : List Value).toArray 7) := by
  refine law_headN l C0 (fun D k az al sw Sg th ws H locs ls hC hP hD hS hW hV hl => ?_)
  refine lk_loop hlt C0 hC hL (L + 1) 0 0 (by decide) (by omega) (by omega) ws H locs ls 0 hP hD hS ⟨hW.1, hW.2.1, hW.2.2.1, fun j hj => hW.2.2.2 j hj _ _⟩ hV hl

set_option maxHeartbeats 4000000 in
set_option maxRecDepth 100000 in
theorem lawc_out {p : Program} {l : Launch} {e : Env} {s : State} {m : MethodId} {below : List Frame} {meth : Method} {c : Code} {b : Nat} {xs : Nat → Int32} (hlt : l.stackTraces = false) (C0 : lw_At p s m meth c b 6 xs) (D : va_G) (k : Nat → ClassId) (ad : Nat → Nat) (al : Nat) (ux um : Nat → Nat) (rm0 m0 ou : Nat) (hK : va_K D vwCl (tyz k) s) (hE : gX s.heap.size ad al [] s) (H : Heap) (locs : List Loc) (hP : va_P D vwCl (lawW k ad ux um rm0 m0 ou) H) (hD : va_D (fun q : Nat => s.heap.size ≤ q) (lawW k ad ux um rm0 m0 ou)) (hS : va_S (fun q : Nat => s.heap.size ≤ q) s.heap H locs) (ls : Array Slot) (hl : lv_has ls 7 [(4, .int 0), (3, .ref ou), (2, .ref m0), (1, .ref rm0), (0, .ref b)]) : W p l e room_1 s m #[Value.ref b] below meth c H locs 213 13817 (lw_Z below #[Value.ref b] s) (F0 m 1468 ls []) := by
  obtain ⟨hx, hb, hr, hml, hown, hts, hX, hbl, hlocks, hgv⟩ := C0
  have hA : ∀ q : Nat, s.heap.size ≤ q → (fun q : Nat => s.heap.size ≤ q) q := fun _ h => h
  have hAB : ∀ q : Nat, (fun q : Nat => s.heap.size ≤ q) q → s.heap.size ≤ q := fun _ h => h
  have hbA : ¬ (fun q : Nat => s.heap.size ≤ q) b := Nat.not_le.mpr hbl
  refine lv_iinc (v := 6) (lv' := [(4, .int 6), (3, .ref ou), (2, .ref m0), (1, .ref rm0), (0, .ref b)]) hx hb dL_law_1468 hl (k := 0) rfl (by decide) (by decide) rfl (fun ls hl => ?_)
  refine lv_goto (tgt := 23) hx hb dL_law_1471 (by decide) ?_
  refine lv_iload hx hb dL_law_23 (lv_at hl 0 rfl) ?_
  refine lv_aload_n hx hb dL_law_25 rfl (lv_at hl 4 rfl) ?_
  refine va_slen hx hb hX hbl hbA hS dL_law_26 ?_
  refine lv_topi (fun x1 ex1 => ?_)
  obtain rfl : x1 = 6 := ex1.trans (by decide)
  refine lv_bipush (v := 6) hx hb dL_law_27 (by decide) ?_
  refine lv_isub hx hb dL_law_29 ?_
  refine lv_topi (fun x2 ex2 => ?_)
  obtain rfl : x2 = 0 := ex2.trans (by decide)
  refine lv_icmp_gt (tgt := 1474) hx hb dL_law_30 (by decide) (fun _ => ?_) (fun h9 => absurd (by decide) h9)
  refine lv_iconst (v := 1) hx hb dL_law_1474 (by decide) ?_
  refine va_forget (fun q hq => hS.2.2 q hq) ?_
  refine W.widen (k := 600002) (n := 7302232) (Nat.le_of_ble_eq_true rfl) (Nat.le_of_ble_eq_true rfl) ?_
  exact lw_ret hx hb hr hlocks dL_law_1475

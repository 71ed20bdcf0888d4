/-! ===== Key.find: the first of Key's constants with such a code, OTHER if none has ===== -/
def ky_i (w : Int64) : List Int64 → Nat → Nat
  | [], _ => 0
  | a :: t, i => bif decide (a = w) then i else ky_i w t (i + 1)
def ky (w : Int64) : Nat := ky_i w zkC 0
theorem ky_hit {w : Int64} : ∀ (t : List Int64) (n i : Nat), i < t.length → t.getD i 0 = w → (∀ j, j < i → t.getD j 0 ≠ w) → ky_i w t n = n + i
  | [], n, i, h, _, _ => absurd h (Nat.not_lt_zero _)
  | a :: t, n, 0, _, h, _ => by
    have h : a = w := h
    show (bif decide (a = w) then n else ky_i w t (n + 1)) = n + 0
    rw [decide_eq_true h]
    rfl
  | a :: t, n, i + 1, hl, h, hn => by
    have h0 : a ≠ w := hn 0 (Nat.succ_pos _)
    show (bif decide (a = w) then n else ky_i w t (n + 1)) = n + (i + 1)
    rw [decide_eq_false h0]
    show ky_i w t (n + 1) = n + (i + 1)
    rw [ky_hit t (n + 1) i (Nat.lt_of_succ_lt_succ hl) h (fun j hj => hn (j + 1) (Nat.succ_lt_succ hj))]
    omega
theorem ky_no {w : Int64} : ∀ (t : List Int64) (n : Nat), (∀ j, j < t.length → t.getD j 0 ≠ w) → ky_i w t n = 0
  | [], n, _ => rfl
  | a :: t, n, hn => by
    have h0 : a ≠ w := hn 0 (Nat.succ_pos _)
    show (bif decide (a = w) then n else ky_i w t (n + 1)) = 0
    rw [decide_eq_false h0]
    exact ky_no t (n + 1) (fun j hj => hn (j + 1) (Nat.succ_lt_succ hj))
theorem lg0 {x y : Int64} : lg_cmp x y = 0 ↔ x = y := by
  unfold lg_cmp
  simp only [gt_iff_lt, Int64.lt_iff_toInt_lt, ← Int64.toInt_inj]
  repeat' split
  all_goals (constructor <;> intro hh <;> first | omega | rfl | exact absurd hh (by decide))
def fx_X2_find : xe_F := fun us hp v hp' => ∃ w, us = [.long w] ∧ hp' = hp ∧ v = some (.ref (200 + ky w))
theorem ky_lt (w : Int64) : ky w < 24 := by
  by_cases h : ∃ i, i < 24 ∧ zkC.getD i 0 = w
  · obtain ⟨i, hi⟩ : ∃ i, (i < 24 ∧ zkC.getD i 0 = w) ∧ ∀ j, j < i → zkC.getD j 0 ≠ w := by
      obtain ⟨i, hi⟩ := h
      induction i using Nat.strongRecOn with
      | ind i ih =>
        by_cases q : ∃ j, j < i ∧ zkC.getD j 0 = w
        · obtain ⟨j, hj, e⟩ := q
          exact ih j hj ⟨Nat.lt_trans hj hi.1, e⟩
        · exact ⟨i, hi, fun j hj e => q ⟨j, hj, e⟩⟩
    have e := ky_hit zkC 0 i hi.1.1 hi.1.2 hi.2
    show ky_i w zkC 0 < 24
    rw [e]
    omega
  · have e := ky_no (w := w) zkC 0 (fun j hj q => h ⟨j, hj, q⟩)
    show ky_i w zkC 0 < 24
    rw [e]
    decide
theorem dX2_find_0 : decode cX2_find 0 = .ok (.iconst 0, 1) := by decide +kernel
theorem dX2_find_1 : decode cX2_find 1 = .ok (.istore_n 2, 1) := by decide +kernel
theorem dX2_find_2 : decode cX2_find 2 = .ok (.iload_n 2, 1) := by decide +kernel
theorem dX2_find_3 : decode cX2_find 3 = .ok (.getstatic 125, 3) := by decide +kernel
theorem dX2_find_6 : decode cX2_find 6 = .ok (.arraylength, 1) := by decide +kernel
theorem dX2_find_7 : decode cX2_find 7 = .ok (.if_icmp .ge 28, 3) := by decide +kernel
theorem dX2_find_10 : decode cX2_find 10 = .ok (.getstatic 125, 3) := by decide +kernel
theorem dX2_find_13 : decode cX2_find 13 = .ok (.iload_n 2, 1) := by decide +kernel
theorem dX2_find_14 : decode cX2_find 14 = .ok (.aaload, 1) := by decide +kernel
theorem dX2_find_15 : decode cX2_find 15 = .ok (.getfield 111, 3) := by decide +kernel
theorem dX2_find_18 : decode cX2_find 18 = .ok (.lload_n 0, 1) := by decide +kernel
theorem dX2_find_19 : decode cX2_find 19 = .ok (.lcmp, 1) := by decide +kernel
theorem dX2_find_20 : decode cX2_find 20 = .ok (.ifCond .ne 9, 3) := by decide +kernel
theorem dX2_find_23 : decode cX2_find 23 = .ok (.getstatic 125, 3) := by decide +kernel
theorem dX2_find_26 : decode cX2_find 26 = .ok (.iload_n 2, 1) := by decide +kernel
theorem dX2_find_27 : decode cX2_find 27 = .ok (.aaload, 1) := by decide +kernel
theorem dX2_find_28 : decode cX2_find 28 = .ok (.areturn, 1) := by decide +kernel
theorem dX2_find_29 : decode cX2_find 29 = .ok (.iinc 2 1, 3) := by decide +kernel
theorem dX2_find_32 : decode cX2_find 32 = .ok (.goto (-30), 3) := by decide +kernel
theorem dX2_find_35 : decode cX2_find 35 = .ok (.getstatic 5, 3) := by decide +kernel
theorem dX2_find_38 : decode cX2_find 38 = .ok (.areturn, 1) := by decide +kernel
section KF
variable {p : Program} {l : Launch} {e : Env} {R : Room} {s : State} {m : MethodId} {args : Array Value} {below : List Frame} {meth : Method} {c : Code} {cells slots : Nat} {Q : State → Prop} {A : Nat → Prop} {Sg : Nat → Option Nat} {B0 : Nat} {ad : Nat → Nat} {al sw : Nat} {w0 : va_W} {H : Heap} {locs : List Loc} {w : Int64}
theorem fd_loop (S : CallFix p m c cX2_find 3 s args (zw yX2_find cX2_find 3 (some (.object "RungMoney$Key"))) RX2) (hE : zEx B0 ad al sw Sg w0 s) (hAB : ∀ q, A q → B0 ≤ q) (hS : va_S A s.heap H locs)
    (hret : ∀ (ls : Array Slot) (pc i : Nat), i = ky w → decode cX2_find pc = .ok (.areturn, 1) → W p l e R s m args below meth c H locs cells slots Q (F0 m pc ls [.ref (ad i)])) :
    ∀ (n i : Nat) (ls : Array Slot), i + n = 24 → (∀ j, j < i → zkC.getD j 0 ≠ w) → lv_has ls 3 [(2, .int (Int32.ofNat i)), (0, .long w)] → W p l e R s m args below meth c H locs cells slots Q (F0 m 2 ls []) := by
  have hlA : (Cond.fieldLink RX2 125 "RungMoney$Key" "ALL" "[LRungMoney$Key;").before args s = true := S.2.2.2.2 (.fieldLink RX2 125 "RungMoney$Key" "ALL" "[LRungMoney$Key;") (List.mem_cons_of_mem _ zw_516)
  have hlC : (Cond.fieldLink RX2 111 "RungMoney$Key" "code" "J").before args s = true := S.2.2.2.2 (.fieldLink RX2 111 "RungMoney$Key" "code" "J") (List.mem_cons_of_mem _ zw_1973)
  have hlO : (Cond.fieldLink RX2 5 "RungMoney$Key" "OTHER" "LRungMoney$Key;").before args s = true := S.2.2.2.2 (.fieldLink RX2 5 "RungMoney$Key" "OTHER" "LRungMoney$Key;") (List.mem_cons_of_mem _ zw_518)
  intro n
  induction n with
  | zero =>
    intro i ls hi hn hl
    have hi : i = 24 := hi
    subst hi
    refine lv_iload_n S.1 S.2.1 dX2_find_2 rfl (lv_at hl 0 rfl) ?_
    refine va_gets (C := RX2) (n := "ALL") (d := "[LRungMoney$Key;") (v := .ref al) S.1 S.2.1 (hE.2.2.2.2.1.narrow hAB) hS S.2.2.2.1 hlA (fun _ h9 => h9) dX2_find_3 ?_
    refine va_tlen (v := 24) S.1 S.2.1 (hE.2.2.2.2.2.1.narrow hAB) hS rfl dX2_find_6 ?_
    refine lv_icmp_ge (tgt := 35) S.1 S.2.1 dX2_find_7 (by decide) (fun _ => ?_) (fun h => absurd (by decide) h)
    refine va_gets (C := RX2) (n := zkN.getD 0 "") (d := zkD) (v := .ref (ad 0)) S.1 S.2.1 ((hE.2.2.2.1.1 0 (by decide)).1.narrow hAB) hS S.2.2.2.1 hlO (fun _ h9 => h9) dX2_find_35 ?_
    exact hret ls 38 0 (ky_no zkC 0 hn).symm dX2_find_38
  | succ n ih =>
    intro i ls hi hn hl
    have hi24 : i < 24 := by omega
    have ei : (Int32.ofNat i).toInt = (i : Int) := Int32.toInt_ofNat_of_lt (by omega)
    obtain ⟨n1, n2⟩ := zi_in (i := Int32.ofNat i) (n := 24) (by omega) (by omega)
    have n3 : (Int32.ofNat i).toNatClampNeg = i := by rw [n2, ei]; exact Int.toNat_natCast i
    obtain ⟨f, hf⟩ := hE.2.2.2.2.2.2.2.2
    have ef : f.1 i = zkC.getD i 0 := congrFun f.2 i
    refine lv_iload_n S.1 S.2.1 dX2_find_2 rfl (lv_at hl 0 rfl) ?_
    refine va_gets (C := RX2) (n := "ALL") (d := "[LRungMoney$Key;") (v := .ref al) S.1 S.2.1 (hE.2.2.2.2.1.narrow hAB) hS S.2.2.2.1 hlA (fun _ h9 => h9) dX2_find_3 ?_
    refine va_tlen (v := 24) S.1 S.2.1 (hE.2.2.2.2.2.1.narrow hAB) hS rfl dX2_find_6 ?_
    refine lv_icmp_ge (tgt := 35) S.1 S.2.1 dX2_find_7 (by decide) (fun h => absurd (Int32.le_iff_toInt_le.mp h) (by rw [ei]; show ¬ (24 : Int) ≤ i; omega)) (fun _ => ?_)
    refine va_gets (C := RX2) (n := "ALL") (d := "[LRungMoney$Key;") (v := .ref al) S.1 S.2.1 (hE.2.2.2.2.1.narrow hAB) hS S.2.2.2.1 hlA (fun _ h9 => h9) dX2_find_10 ?_
    refine lv_iload_n S.1 S.2.1 dX2_find_13 rfl (lv_at hl 0 rfl) ?_
    refine vb_tq (C := "RungMoney$Key") (v := .ref (ad i)) S.1 S.2.1 (hE.2.2.2.2.2.1.narrow hAB) hS n1 (by show Value.ref (ad (Int32.ofNat i).toNatClampNeg) = _; rw [n3]) dX2_find_14 ?_
    refine z_getOF (o := RX2) (nm := "code") (d := "J") (v := .long (f.1 i)) S.1 S.2.1 ((hf i hi24).narrow hAB) hS S.2.2.2.1 hlC (fun _ h9 => h9) dX2_find_15 ?_
    refine lv_lload_n S.1 S.2.1 dX2_find_18 rfl (lv_at hl 1 rfl) ?_
    refine W.lcmp S.1 S.2.1 dX2_find_19 ?_
    refine lv_if_ne (tgt := 29) S.1 S.2.1 dX2_find_20 (by decide) (fun hne => ?_) (fun h0 => ?_)
    · refine lv_iinc (k := 0) (v := Int32.ofNat (i + 1)) (lv' := [(2, .int (Int32.ofNat (i + 1))), (0, .long w)]) S.1 S.2.1 dX2_find_29 hl rfl (Int32.ofNat_add i 1).symm (by decide) rfl (fun ls hl => ?_)
      refine lv_goto (tgt := 2) S.1 S.2.1 dX2_find_32 (by decide) ?_
      refine ih (i + 1) ls (by omega) (fun j hj q => ?_) hl
      by_cases e9 : j = i
      · subst e9
        exact hne (lg0.mpr (ef.trans q))
      · exact hn j (by omega) q
    · have hw : zkC.getD i 0 = w := ef.symm.trans (lg0.mp h0)
      refine va_gets (C := RX2) (n := "ALL") (d := "[LRungMoney$Key;") (v := .ref al) S.1 S.2.1 (hE.2.2.2.2.1.narrow hAB) hS S.2.2.2.1 hlA (fun _ h9 => h9) dX2_find_23 ?_
      refine lv_iload_n S.1 S.2.1 dX2_find_26 rfl (lv_at hl 0 rfl) ?_
      refine vb_tq (C := "RungMoney$Key") (v := .ref (ad i)) S.1 S.2.1 (hE.2.2.2.2.2.1.narrow hAB) hS n1 (by show Value.ref (ad (Int32.ofNat i).toNatClampNeg) = _; rw [n3]) dX2_find_27 ?_
      refine hret ls 28 i ?_ dX2_find_28
      have e8 := ky_hit zkC 0 i hi24 hw hn
      rw [Nat.zero_add] at e8
      exact e8.symm
end KF
theorem kx_X2_find (l : Launch) (D : va_G) (k : Nat → ClassId) (B0 : Nat) (ad : Nat → Nat) (al sw : Nat) : xe_Con l yX2_find (zw yX2_find cX2_find 3 (some (.object "RungMoney$Key"))) ({ frames := 0, cells := 0, slots := 0, locals := 0 }) D k ad (zEx B0 ad al sw) xGT xSC xRF fx_X2_find := by
  have hEx := zEx_ok B0 ad al sw
  intro Sg ws θ us vs sz hp v hp' hth ht hcc hus hfv
  obtain ⟨w, rfl, rfl, rfl⟩ := hfv
  obtain ⟨_, vs, rfl, ⟨rfl, o0⟩, h3⟩ := zf_f2_c hus
  cases xe_nil h3
  refine Met.ofW (cc := cX2_find) (maxL := 3) (ret := some (.object "RungMoney$Key")) (by decide) rfl ?_
  intro p e s m args below meth c s₁ B hml hv
  obtain ⟨rfl, hsz, hP, hK, hD0, hE⟩ := hv
  have hx := B.exec
  have hb := B.bytes
  have hr := B.returns
  have hts := atoms_spec (ws := zw yX2_find cX2_find 3 (some (.object "RungMoney$Key"))) B.pre
  have hown : s.vm.findClass yX2_find.cls = some m.cls := findClass_of_methodNamed B.named
  have hlocks := B.notSynchronized
  subst hsz
  have hD := hD0.self (sz := s.heap.size)
  have hAB := hEx.2.1 Sg ws s hE
  generalize hAe : va_A ws s.heap.size = A at hD hAB ⊢
  have hS : va_S A s.heap s.heap [] := va_S.rf
  have hl := lv_entry ([.long w] : List Value) (n := 3) (Nat.le_of_ble_eq_true rfl)
  rw [lg_entry_eq]
  have hl : lv_has _ 3 [(0, .long w)] := hl
  have hx9 := hth.2 (ky w) (ky_lt w)
  have hk9 : xe_k (200 + ky w) = 128 := by
    unfold xe_k
    have hb9 : Nat.blt (200 + ky w) 128 = false := by
      cases hb9 : Nat.blt (200 + ky w) 128
      · rfl
      · exact absurd (zf_blt hb9) (by omega)
    rw [hb9]
  have hv' : zf_f2 (xe_v Sg θ) (some (Value.ref (200 + ky w))).toList ((some (Value.ref (200 + ky w))).map (xe_m θ)).toList := ⟨⟨rfl, by show Sg (θ (200 + ky w)) = some (xe_k (200 + ky w)); rw [hx9.1, hk9]; exact hx9.2⟩, trivial⟩
  have post : ∀ t : State, t.heap = s.heap → s.WarmedH t.vm → zf_Q (xe_po D k Sg xGT xSC xRF θ ws (some (Value.ref (200 + ky w))) hp' A) A ([Value.long w] : List Value).reverse.toArray s (.returned (some (.ref (ad (ky w))))) t := fun t ht' hW => ⟨⟨_, rfl, by show some (Value.ref (ad (ky w))) = some (Value.ref (θ (200 + ky w))); rw [hx9.1], hv', ws, by rw [ht']; exact hP, va_K.moved hW.alike hK, hD, ht, hcc, xe_I_rf⟩, hS.F ht'⟩
  refine lv_iconst (v := 0) hx hb dX2_find_0 (by decide) ?_
  refine lv_istore_n (lv' := [(2, .int 0), (0, .long w)]) hx hb dX2_find_1 rfl hl (by decide) rfl (fun ls hl => ?_)
  refine fd_loop (w := w) (A := A) (w0 := ws) (Sg := Sg) ⟨hx, hb, hml, hown, hts⟩ hE hAB hS ?_ 24 0 ls rfl (fun j hj => absurd hj (Nat.not_lt_zero _)) hl
  intro ls pc i hi hdg
  subst hi
  exact W.aret hx hb hr (Or.inl ⟨_, rfl⟩) (Or.inr ⟨_, rfl⟩) post hS.2.2 hdg hlocks

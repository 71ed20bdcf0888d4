theorem dX5_forget_0 : decode cX5_forget 0 = .ok (.aload_n 0, 1) := by decide +kernel
theorem dX5_forget_1 : decode cX5_forget 1 = .ok (.iconst 0, 1) := by decide +kernel
theorem dX5_forget_2 : decode cX5_forget 2 = .ok (.putfield 16, 3) := by decide +kernel
theorem dX5_forget_5 : decode cX5_forget 5 = .ok (.return_, 1) := by decide +kernel
set_option maxRecDepth 20000 in
theorem ggX5_hold_X10_copy : GoodIn wsX5_hold wsX10_copy := goodIn_r _ [7, 8, 9, 10, 11, 12, 13, 14, 15, 16, 17, 18, 19, 20, 21, 22, 23, 24, 25, 26, 27, 28, 29, 30, 31, 32, 33, 34, 35, 36, 37, 38, 39, 43, 44, 45, 46, 47, 48, 49, 50, 51, 52, 53, 54, 55, 56, 57, 58, 59] (by decide +kernel) (by decide +kernel)
set_option maxRecDepth 20000 in
theorem gX5_hold_X10_copy : GoodIn wsX5_hold (wsV RX5 23 RX10 yX10_copy wsX10_copy) := goodIn_app (goodIn_of _ (by decide +kernel)) ggX5_hold_X10_copy
theorem dX5_hold_0 : decode cX5_hold 0 = .ok (.aload_n 0, 1) := by decide +kernel
theorem dX5_hold_1 : decode cX5_hold 1 = .ok (.getfield 11, 3) := by decide +kernel
theorem dX5_hold_4 : decode cX5_hold 4 = .ok (.aload_n 0, 1) := by decide +kernel
theorem dX5_hold_5 : decode cX5_hold 5 = .ok (.getfield 20, 3) := by decide +kernel
theorem dX5_hold_8 : decode cX5_hold 8 = .ok (.aaload, 1) := by decide +kernel
theorem dX5_hold_9 : decode cX5_hold 9 = .ok (.aload_n 1, 1) := by decide +kernel
theorem dX5_hold_10 : decode cX5_hold 10 = .ok (.invokevirtual 23, 3) := by decide +kernel
theorem dX5_hold_13 : decode cX5_hold 13 = .ok (.return_, 1) := by decide +kernel
theorem dX5_keep_0 : decode cX5_keep 0 = .ok (.aload_n 0, 1) := by decide +kernel
theorem dX5_keep_1 : decode cX5_keep 1 = .ok (.aload_n 0, 1) := by decide +kernel
theorem dX5_keep_2 : decode cX5_keep 2 = .ok (.getfield 20, 3) := by decide +kernel
theorem dX5_keep_5 : decode cX5_keep 5 = .ok (.iconst 1, 1) := by decide +kernel
theorem dX5_keep_6 : decode cX5_keep 6 = .ok (.iadd, 1) := by decide +kernel
theorem dX5_keep_7 : decode cX5_keep 7 = .ok (.bipush 9, 2) := by decide +kernel
theorem dX5_keep_9 : decode cX5_keep 9 = .ok (.if_icmp .ge 12, 3) := by decide +kernel
theorem dX5_keep_12 : decode cX5_keep 12 = .ok (.aload_n 0, 1) := by decide +kernel
theorem dX5_keep_13 : decode cX5_keep 13 = .ok (.getfield 20, 3) := by decide +kernel
theorem dX5_keep_16 : decode cX5_keep 16 = .ok (.iconst 1, 1) := by decide +kernel
theorem dX5_keep_17 : decode cX5_keep 17 = .ok (.iadd, 1) := by decide +kernel
theorem dX5_keep_18 : decode cX5_keep 18 = .ok (.goto 4, 3) := by decide +kernel
theorem dX5_keep_22 : decode cX5_keep 22 = .ok (.putfield 20, 3) := by decide +kernel
theorem dX5_keep_25 : decode cX5_keep 25 = .ok (.aload_n 0, 1) := by decide +kernel
theorem dX5_keep_26 : decode cX5_keep 26 = .ok (.aload_n 0, 1) := by decide +kernel
theorem dX5_keep_27 : decode cX5_keep 27 = .ok (.getfield 16, 3) := by decide +kernel
theorem dX5_keep_30 : decode cX5_keep 30 = .ok (.iconst 1, 1) := by decide +kernel
theorem dX5_keep_31 : decode cX5_keep 31 = .ok (.iadd, 1) := by decide +kernel
theorem dX5_keep_32 : decode cX5_keep 32 = .ok (.bipush 8, 2) := by decide +kernel
theorem dX5_keep_34 : decode cX5_keep 34 = .ok (.invokestatic 27, 3) := by decide +kernel
theorem dX5_keep_37 : decode cX5_keep 37 = .ok (.putfield 16, 3) := by decide +kernel
theorem dX5_keep_40 : decode cX5_keep 40 = .ok (.return_, 1) := by decide +kernel
theorem dX5_takeBack_0 : decode cX5_takeBack 0 = .ok (.aload_n 0, 1) := by decide +kernel
theorem dX5_takeBack_1 : decode cX5_takeBack 1 = .ok (.getfield 16, 3) := by decide +kernel
theorem dX5_takeBack_4 : decode cX5_takeBack 4 = .ok (.ifCond .ne 5, 3) := by decide +kernel
theorem dX5_takeBack_7 : decode cX5_takeBack 7 = .ok (.iconst 0, 1) := by decide +kernel
theorem dX5_takeBack_8 : decode cX5_takeBack 8 = .ok (.ireturn, 1) := by decide +kernel
theorem dX8_forget_0 : decode cX8_forget 0 = .ok (.aload_n 0, 1) := by decide +kernel
theorem dX8_forget_1 : decode cX8_forget 1 = .ok (.iconst 0, 1) := by decide +kernel
theorem dX8_forget_2 : decode cX8_forget 2 = .ok (.putfield 29, 3) := by decide +kernel
theorem dX8_forget_5 : decode cX8_forget 5 = .ok (.aload_n 0, 1) := by decide +kernel
theorem dX8_forget_6 : decode cX8_forget 6 = .ok (.iconst 0, 1) := by decide +kernel
theorem dX8_forget_7 : decode cX8_forget 7 = .ok (.putfield 33, 3) := by decide +kernel
theorem dX8_forget_10 : decode cX8_forget 10 = .ok (.return_, 1) := by decide +kernel
theorem dX8_isTold_0 : decode cX8_isTold 0 = .ok (.aload_n 0, 1) := by decide +kernel
theorem dX8_isTold_1 : decode cX8_isTold 1 = .ok (.getfield 33, 3) := by decide +kernel
theorem dX8_isTold_4 : decode cX8_isTold 4 = .ok (.ifCond .le 7, 3) := by decide +kernel
theorem dX8_isTold_11 : decode cX8_isTold 11 = .ok (.iconst 0, 1) := by decide +kernel
theorem dX8_isTold_12 : decode cX8_isTold 12 = .ok (.ireturn, 1) := by decide +kernel
set_option maxRecDepth 20000 in
theorem ggX10_passWinter_X10_passWinters : GoodIn wsX10_passWinter wsX10_passWinters := goodIn_r _ [5, 6, 7, 8, 9, 10, 11, 12, 13, 14, 15, 16, 17, 18, 19, 20, 21, 22, 23, 24, 25, 26, 27, 28, 29, 30, 31, 32] (by decide +kernel) (by decide +kernel)
set_option maxRecDepth 20000 in
theorem gX10_passWinter_X10_passWinters : GoodIn wsX10_passWinter (wsV RX10 121 RX10 yX10_passWinters wsX10_passWinters) := goodIn_app (goodIn_of _ (by decide +kernel)) ggX10_passWinter_X10_passWinters
theorem dX10_passWinter_0 : decode cX10_passWinter 0 = .ok (.aload_n 0, 1) := by decide +kernel
theorem dX10_passWinter_1 : decode cX10_passWinter 1 = .ok (.iconst 1, 1) := by decide +kernel
theorem dX10_passWinter_2 : decode cX10_passWinter 2 = .ok (.iload_n 1, 1) := by decide +kernel
theorem dX10_passWinter_3 : decode cX10_passWinter 3 = .ok (.invokevirtual 121, 3) := by decide +kernel
theorem dX10_passWinter_6 : decode cX10_passWinter 6 = .ok (.iconst 1, 1) := by decide +kernel
theorem dX10_passWinter_7 : decode cX10_passWinter 7 = .ok (.if_icmp .ne 7, 3) := by decide +kernel
theorem dX10_passWinter_10 : decode cX10_passWinter 10 = .ok (.iconst 0, 1) := by decide +kernel
theorem dX10_passWinter_11 : decode cX10_passWinter 11 = .ok (.goto 4, 3) := by decide +kernel
theorem dX10_passWinter_15 : decode cX10_passWinter 15 = .ok (.ireturn, 1) := by decide +kernel
set_option maxRecDepth 20000 in
theorem ggX10_passWinters_X3_rotBy : GoodIn wsX10_passWinters wsX3_rotBy := goodIn_r _ [8, 9, 10, 11, 12, 22, 23, 24, 25, 26, 27] (by decide +kernel) (by decide +kernel)
set_option maxRecDepth 20000 in
theorem gX10_passWinters_X3_rotBy : GoodIn wsX10_passWinters (wsV RX10 124 RX3 yX3_rotBy wsX3_rotBy) := goodIn_app (goodIn_of _ (by decide +kernel)) ggX10_passWinters_X3_rotBy
theorem dX10_passWinters_0 : decode cX10_passWinters 0 = .ok (.iload_n 2, 1) := by decide +kernel
theorem dX10_passWinters_1 : decode cX10_passWinters 1 = .ok (.istore_n 3, 1) := by decide +kernel
theorem dX10_passWinters_2 : decode cX10_passWinters 2 = .ok (.iconst 0, 1) := by decide +kernel
theorem dX10_passWinters_3 : decode cX10_passWinters 3 = .ok (.istore 4, 2) := by decide +kernel
theorem dX10_passWinters_5 : decode cX10_passWinters 5 = .ok (.iload 4, 2) := by decide +kernel
theorem dX10_passWinters_7 : decode cX10_passWinters 7 = .ok (.iload_n 1, 1) := by decide +kernel
theorem dX10_passWinters_8 : decode cX10_passWinters 8 = .ok (.if_icmp .ge 41, 3) := by decide +kernel
theorem dX10_passWinters_11 : decode cX10_passWinters 11 = .ok (.aload_n 0, 1) := by decide +kernel
theorem dX10_passWinters_12 : decode cX10_passWinters 12 = .ok (.getfield 52, 3) := by decide +kernel
theorem dX10_passWinters_15 : decode cX10_passWinters 15 = .ok (.bipush 99, 2) := by decide +kernel
theorem dX10_passWinters_17 : decode cX10_passWinters 17 = .ok (.if_icmp .ge 32, 3) := by decide +kernel
theorem dX10_passWinters_20 : decode cX10_passWinters 20 = .ok (.aload_n 0, 1) := by decide +kernel
theorem dX10_passWinters_21 : decode cX10_passWinters 21 = .ok (.getfield 18, 3) := by decide +kernel
theorem dX10_passWinters_24 : decode cX10_passWinters 24 = .ok (.iload_n 3, 1) := by decide +kernel
theorem dX10_passWinters_25 : decode cX10_passWinters 25 = .ok (.aload_n 0, 1) := by decide +kernel
theorem dX10_passWinters_26 : decode cX10_passWinters 26 = .ok (.getfield 33, 3) := by decide +kernel
theorem dX10_passWinters_29 : decode cX10_passWinters 29 = .ok (.invokevirtual 124, 3) := by decide +kernel
theorem dX10_passWinters_32 : decode cX10_passWinters 32 = .ok (.istore_n 3, 1) := by decide +kernel
theorem dX10_passWinters_33 : decode cX10_passWinters 33 = .ok (.aload_n 0, 1) := by decide +kernel
theorem dX10_passWinters_34 : decode cX10_passWinters 34 = .ok (.dup, 1) := by decide +kernel
theorem dX10_passWinters_35 : decode cX10_passWinters 35 = .ok (.getfield 52, 3) := by decide +kernel
theorem dX10_passWinters_38 : decode cX10_passWinters 38 = .ok (.iconst 1, 1) := by decide +kernel
theorem dX10_passWinters_39 : decode cX10_passWinters 39 = .ok (.iadd, 1) := by decide +kernel
theorem dX10_passWinters_40 : decode cX10_passWinters 40 = .ok (.putfield 52, 3) := by decide +kernel
theorem dX10_passWinters_43 : decode cX10_passWinters 43 = .ok (.iinc 4 1, 3) := by decide +kernel
theorem dX10_passWinters_46 : decode cX10_passWinters 46 = .ok (.goto (-41), 3) := by decide +kernel
theorem dX10_passWinters_49 : decode cX10_passWinters 49 = .ok (.iload 4, 2) := by decide +kernel
theorem dX10_passWinters_51 : decode cX10_passWinters 51 = .ok (.ireturn, 1) := by decide +kernel
theorem inX5_hold_X5 : ∀ w ∈ wsX50, w ∈ wsX5_hold := by decide +kernel
theorem inX5_keep_X5 : ∀ w ∈ wsX50, w ∈ wsX5_keep := by decide +kernel
theorem inX5_takeBack_X5 : ∀ w ∈ wsX50, w ∈ wsX5_takeBack := by decide +kernel
theorem inX5_forget_X5 : ∀ w ∈ wsX50, w ∈ wsX5_forget := by decide +kernel
theorem inX8_forget_X8 : ∀ w ∈ wsX80, w ∈ wsX8_forget := by decide +kernel
theorem inX8_isTold_X8 : ∀ w ∈ wsX80, w ∈ wsX8_isTold := by decide +kernel
theorem inX10_passWinters_X10 : ∀ w ∈ wsX100, w ∈ wsX10_passWinters := by decide +kernel
set_option maxHeartbeats 4000000 in
set_option maxRecDepth 100000 in
theorem cP_hold (l : Launch) (D : va_G) (k : Nat → ClassId) (h0 : Nat) (h1 : Nat) (w : Nat → Nat) (r1 : Nat) (r2 : Nat) (r3 : Nat) (r4 : Nat) (r5 : Nat) (r6 : Nat) (r7 : Nat) (r8 : Nat) (r9 : Nat) (r10 : Nat) (r11 : Nat) (t0 : Nat) (t1 : Nat) (t2 : Nat) (t3 : Nat) (t4 : Nat) (t5 : Nat) (t6 : Nat) (t7 : Nat) (t8 : Nat) (t9 : Nat) (t10 : Nat) (t11 : Nat) : g_Cv l yX5_hold wsX5_hold ({ frames := 3, cells := 0, slots := 0, locals := 102 }) D k g_E0 [.ref h0, .ref t0] [(h0, .inr (3, [.ref h1, .int 0, .int 0])), (h1, .inl (k 4, 9, .inr (.inr (.inr (.inr (rgf w 9)))))), ((w 0), .inr (8, [.int 0, .ref r1, .ref r2, .ref r8, .ref r11, .int 1, .int 0, .int 0, .int 0])), (r1, .inl (k 1, 6, .inr (.inl (fun _ => 0)))), (r2, .inr (1, [.int 0, .ref r3, .ref r4, .ref r5, .ref r6, .ref r7])), (r3, .inl (k 0, 16, .inl (fun _ => 0))), (r4, .inl (k 0, 16, .inl (fun _ => 0))), (r5, .inl (k 0, 16, .inl (fun _ => 0))), (r6, .inl (k 0, 16, .inl (fun _ => 0))), (r7, .inl (k 0, 16, .inl (fun _ => 0))), (r8, .inr (0, [.ref r9, .ref r10])), (r9, .inl (k 0, 36, .inl (fun _ => 0))), (r10, .inl (k 0, 6, .inl (fun _ => 0))), (r11, .inl (k 0, 6, .inl (fun _ => 0))), (t0, .inr (8, [.int 0, .ref t1, .ref t2, .ref t8, .ref t11, .int 1, .int 0, .int 0, .int 0])), (t1, .inl (k 1, 6, .inr (.inl (fun _ => 0)))), (t2, .inr (1, [.int 0, .ref t3, .ref t4, .ref t5, .ref t6, .ref t7])), (t3, .inl (k 0, 16, .inl (fun _ => 0))), (t4, .inl (k 0, 16, .inl (fun _ => 0))), (t5, .inl (k 0, 16, .inl (fun _ => 0))), (t6, .inl (k 0, 16, .inl (fun _ => 0))), (t7, .inl (k 0, 16, .inl (fun _ => 0))), (t8, .inr (0, [.ref t9, .ref t10])), (t9, .inl (k 0, 36, .inl (fun _ => 0))), (t10, .inl (k 0, 6, .inl (fun _ => 0))), (t11, .inl (k 0, 6, .inl (fun _ => 0)))] (fun u => [(h0, .inr (3, [.ref h1, .int 0, .int 0])), (h1, .inl (k 4, 9, .inr (.inr (.inr (.inr (rgf w 9)))))), ((w 0), .inr (8, [.int 0, .ref r1, .ref r2, .ref r8, .ref r11, .int 1, .int 0, .int 0, .int 0])), (r1, .inl (k 1, 6, .inr (.inl (fun _ => 0)))), (r2, .inr (1, [.int 0, .ref r3, .ref r4, .ref r5, .ref r6, .ref r7])), (r3, .inl (k 0, 16, .inl (fun _ => 0))), (r4, .inl (k 0, 16, .inl (fun _ => 0))), (r5, .inl (k 0, 16, .inl (fun _ => 0))), (r6, .inl (k 0, 16, .inl (fun _ => 0))), (r7, .inl (k 0, 16, .inl (fun _ => 0))), (r8, .inr (0, [.ref r9, .ref r10])), (r9, .inl (k 0, 36, .inl (fun _ => 0))), (r10, .inl (k 0, 6, .inl (fun _ => 0))), (r11, .inl (k 0, 6, .inl (fun _ => 0))), (t0, .inr (8, [.int 0, .ref t1, .ref t2, .ref t8, .ref t11, .int 1, .int 0, .int 0, .int 0])), (t1, .inl (k 1, 6, .inr (.inl (fun _ => 0)))), (t2, .inr (1, [.int 0, .ref t3, .ref t4, .ref t5, .ref t6, .ref t7])), (t3, .inl (k 0, 16, .inl (fun _ => 0))), (t4, .inl (k 0, 16, .inl (fun _ => 0))), (t5, .inl (k 0, 16, .inl (fun _ => 0))), (t6, .inl (k 0, 16, .inl (fun _ => 0))), (t7, .inl (k 0, 16, .inl (fun _ => 0))), (t8, .inr (0, [.ref t9, .ref t10])), (t9, .inl (k 0, 36, .inl (fun _ => 0))), (t10, .inl (k 0, 6, .inl (fun _ => 0))), (t11, .inl (k 0, 6, .inl (fun _ => 0)))]) 0 0 := by
  intro sz
  refine Met.ofW (cc := cX5_hold) (maxL := 2) (ret := none) (by decide) rfl ?_
  intro p e s m args below meth c s₁ B hml hv
  obtain ⟨rfl, hsz, hP, hK, hD0, hE⟩ := hv
  have hx := B.exec
  have hb := B.bytes
  have hr := B.returns
  have hts := atoms_spec (ws := wsX5_hold) B.pre
  have hown : s.vm.findClass RX5 = some m.cls := findClass_of_methodNamed B.named
  have hlocks := B.notSynchronized
  subst hsz
  have hD := hD0.self (sz := s.heap.size)
  generalize hAe : va_A [(h0, .inr (3, [.ref h1, .int 0, .int 0])), (h1, .inl (k 4, 9, .inr (.inr (.inr (.inr (rgf w 9)))))), ((w 0), .inr (8, [.int 0, .ref r1, .ref r2, .ref r8, .ref r11, .int 1, .int 0, .int 0, .int 0])), (r1, .inl (k 1, 6, .inr (.inl (fun _ => 0)))), (r2, .inr (1, [.int 0, .ref r3, .ref r4, .ref r5, .ref r6, .ref r7])), (r3, .inl (k 0, 16, .inl (fun _ => 0))), (r4, .inl (k 0, 16, .inl (fun _ => 0))), (r5, .inl (k 0, 16, .inl (fun _ => 0))), (r6, .inl (k 0, 16, .inl (fun _ => 0))), (r7, .inl (k 0, 16, .inl (fun _ => 0))), (r8, .inr (0, [.ref r9, .ref r10])), (r9, .inl (k 0, 36, .inl (fun _ => 0))), (r10, .inl (k 0, 6, .inl (fun _ => 0))), (r11, .inl (k 0, 6, .inl (fun _ => 0))), (t0, .inr (8, [.int 0, .ref t1, .ref t2, .ref t8, .ref t11, .int 1, .int 0, .int 0, .int 0])), (t1, .inl (k 1, 6, .inr (.inl (fun _ => 0)))), (t2, .inr (1, [.int 0, .ref t3, .ref t4, .ref t5, .ref t6, .ref t7])), (t3, .inl (k 0, 16, .inl (fun _ => 0))), (t4, .inl (k 0, 16, .inl (fun _ => 0))), (t5, .inl (k 0, 16, .inl (fun _ => 0))), (t6, .inl (k 0, 16, .inl (fun _ => 0))), (t7, .inl (k 0, 16, .inl (fun _ => 0))), (t8, .inr (0, [.ref t9, .ref t10])), (t9, .inl (k 0, 36, .inl (fun _ => 0))), (t10, .inl (k 0, 6, .inl (fun _ => 0))), (t11, .inl (k 0, 6, .inl (fun _ => 0)))] s.heap.size = A at hD ⊢
  have hA : ∀ q : Nat, s.heap.size ≤ q → A q := fun q h => by rw [← hAe]; exact Or.inr h
  have hS : va_S A s.heap s.heap [] := va_S.rf
  have hP : va_P D vwCl [(h0, .inr (3, [.ref h1, .int 0, .int 0])), (h1, .inl (k 4, 9, .inr (.inr (.inr (.inr (rgf w 9)))))), ((w 0), .inr (8, [.int 0, .ref r1, .ref r2, .ref r8, .ref r11, .int 1, .int 0, .int 0, .int 0])), (r1, .inl (k 1, 6, .inr (.inl (fun _ => 0)))), (r2, .inr (1, [.int 0, .ref r3, .ref r4, .ref r5, .ref r6, .ref r7])), (r3, .inl (k 0, 16, .inl (fun _ => 0))), (r4, .inl (k 0, 16, .inl (fun _ => 0))), (r5, .inl (k 0, 16, .inl (fun _ => 0))), (r6, .inl (k 0, 16, .inl (fun _ => 0))), (r7, .inl (k 0, 16, .inl (fun _ => 0))), (r8, .inr (0, [.ref r9, .ref r10])), (r9, .inl (k 0, 36, .inl (fun _ => 0))), (r10, .inl (k 0, 6, .inl (fun _ => 0))), (r11, .inl (k 0, 6, .inl (fun _ => 0))), (t0, .inr (8, [.int 0, .ref t1, .ref t2, .ref t8, .ref t11, .int 1, .int 0, .int 0, .int 0])), (t1, .inl (k 1, 6, .inr (.inl (fun _ => 0)))), (t2, .inr (1, [.int 0, .ref t3, .ref t4, .ref t5, .ref t6, .ref t7])), (t3, .inl (k 0, 16, .inl (fun _ => 0))), (t4, .inl (k 0, 16, .inl (fun _ => 0))), (t5, .inl (k 0, 16, .inl (fun _ => 0))), (t6, .inl (k 0, 16, .inl (fun _ => 0))), (t7, .inl (k 0, 16, .inl (fun _ => 0))), (t8, .inr (0, [.ref t9, .ref t10])), (t9, .inl (k 0, 36, .inl (fun _ => 0))), (t10, .inl (k 0, 6, .inl (fun _ => 0))), (t11, .inl (k 0, 6, .inl (fun _ => 0)))] s.heap := hP
  have hl := lv_entry ([.ref h0, .ref t0]) (n := 2) (Nat.le_of_ble_eq_true rfl)
  rw [lg_entry_eq]
  generalize (lg_sl ([.ref h0, .ref t0]) ++ List.replicate (2 - (lg_sl ([.ref h0, .ref t0])).length) Slot.unset).toArray = ls at hl ⊢
  have hl : lv_has ls 2 [(0, .ref h0), (1, .ref t0)] := hl
  refine lv_aload_n hx hb dX5_hold_0 rfl (lv_at hl 0 rfl) ?_
  refine va_get (D := D) (ci := 3) (v := .ref h1) (C := RX5) (T := TX5) (N := 3) hx hb hts inX5_hold_X5 hown hK hP 0 rfl rfl 0 (by decide) (hts (.fieldLink RX5 11 "RungMoney$Past" "ring" "[LRungMoney$Town;") (by decide +kernel)) (fun _ h9 => h9) rfl dX5_hold_1 ?_
  refine lv_aload_n hx hb dX5_hold_4 rfl (lv_at hl 0 rfl) ?_
  refine va_get (D := D) (ci := 3) (v := .int 0) (C := RX5) (T := TX5) (N := 3) hx hb hts inX5_hold_X5 hown hK hP 0 rfl rfl 1 (by decide) (hts (.fieldLink RX5 20 "RungMoney$Past" "free" "I") (by decide +kernel)) (fun _ h9 => h9) rfl dX5_hold_5 ?_
  refine va_aldq hx hb hK hP 1 4 rfl rfl (by unfold vp_in; decide) dX5_hold_8 ?_
  refine W.eq (g2 := F0 m 9 ls [.ref (w 0)]) rfl ?_
  refine lv_aload_n hx hb dX5_hold_9 rfl (lv_at hl 1 rfl) ?_
  refine g_vV (As := [.ref t0]) (rest := []) (wr := [(h0, .inr (3, [.ref h1, .int 0, .int 0])), (h1, .inl (k 4, 9, .inr (.inr (.inr (.inr (rgf w 9))))))]) ⟨hx, hb, hml, hown, hts⟩ (cT_copy l D k (w 0) r1 r2 r3 r4 r5 r6 r7 r8 r9 r10 r11 t0 t1 t2 t3 t4 t5 t6 t7 t8 t9 t10 t11) (cwV 1 hts gX5_hold_X10_copy rfl rfl rfl (by decide +kernel) ⟨Nat.le_of_ble_eq_true rfl, Nat.le_of_ble_eq_true rfl⟩) g_E0_ok (fun _ _ _ => trivial) hK hP hD hS hA 2 8 rfl rfl rfl [2, 3, 4, 5, 6, 7, 8, 9, 10, 11, 12, 13, 14, 15, 16, 17, 18, 19, 20, 21, 22, 23, 24, 25] [0, 1] rfl rfl (by decide) rfl hl.1 rfl (Nat.le_of_ble_eq_true rfl) dX5_hold_10 ⟨Nat.le_of_ble_eq_true rfl, Nat.le_of_ble_eq_true rfl⟩ (fun u1 H locs hP hD hS => ?_)
  have hP : va_P D vwCl [(h0, .inr (3, [.ref h1, .int 0, .int 0])), (h1, .inl (k 4, 9, .inr (.inr (.inr (.inr (rgf w 9)))))), ((w 0), .inr (8, [.int 0, .ref r1, .ref r2, .ref r8, .ref r11, .int 1, .int 0, .int 0, .int 0])), (r1, .inl (k 1, 6, .inr (.inl (fun _ => 0)))), (r2, .inr (1, [.int 0, .ref r3, .ref r4, .ref r5, .ref r6, .ref r7])), (r3, .inl (k 0, 16, .inl (fun _ => 0))), (r4, .inl (k 0, 16, .inl (fun _ => 0))), (r5, .inl (k 0, 16, .inl (fun _ => 0))), (r6, .inl (k 0, 16, .inl (fun _ => 0))), (r7, .inl (k 0, 16, .inl (fun _ => 0))), (r8, .inr (0, [.ref r9, .ref r10])), (r9, .inl (k 0, 36, .inl (fun _ => 0))), (r10, .inl (k 0, 6, .inl (fun _ => 0))), (r11, .inl (k 0, 6, .inl (fun _ => 0))), (t0, .inr (8, [.int 0, .ref t1, .ref t2, .ref t8, .ref t11, .int 1, .int 0, .int 0, .int 0])), (t1, .inl (k 1, 6, .inr (.inl (fun _ => 0)))), (t2, .inr (1, [.int 0, .ref t3, .ref t4, .ref t5, .ref t6, .ref t7])), (t3, .inl (k 0, 16, .inl (fun _ => 0))), (t4, .inl (k 0, 16, .inl (fun _ => 0))), (t5, .inl (k 0, 16, .inl (fun _ => 0))), (t6, .inl (k 0, 16, .inl (fun _ => 0))), (t7, .inl (k 0, 16, .inl (fun _ => 0))), (t8, .inr (0, [.ref t9, .ref t10])), (t9, .inl (k 0, 36, .inl (fun _ => 0))), (t10, .inl (k 0, 6, .inl (fun _ => 0))), (t11, .inl (k 0, 6, .inl (fun _ => 0)))] H := hP
  have hD : va_D A [(h0, .inr (3, [.ref h1, .int 0, .int 0])), (h1, .inl (k 4, 9, .inr (.inr (.inr (.inr (rgf w 9)))))), ((w 0), .inr (8, [.int 0, .ref r1, .ref r2, .ref r8, .ref r11, .int 1, .int 0, .int 0, .int 0])), (r1, .inl (k 1, 6, .inr (.inl (fun _ => 0)))), (r2, .inr (1, [.int 0, .ref r3, .ref r4, .ref r5, .ref r6, .ref r7])), (r3, .inl (k 0, 16, .inl (fun _ => 0))), (r4, .inl (k 0, 16, .inl (fun _ => 0))), (r5, .inl (k 0, 16, .inl (fun _ => 0))), (r6, .inl (k 0, 16, .inl (fun _ => 0))), (r7, .inl (k 0, 16, .inl (fun _ => 0))), (r8, .inr (0, [.ref r9, .ref r10])), (r9, .inl (k 0, 36, .inl (fun _ => 0))), (r10, .inl (k 0, 6, .inl (fun _ => 0))), (r11, .inl (k 0, 6, .inl (fun _ => 0))), (t0, .inr (8, [.int 0, .ref t1, .ref t2, .ref t8, .ref t11, .int 1, .int 0, .int 0, .int 0])), (t1, .inl (k 1, 6, .inr (.inl (fun _ => 0)))), (t2, .inr (1, [.int 0, .ref t3, .ref t4, .ref t5, .ref t6, .ref t7])), (t3, .inl (k 0, 16, .inl (fun _ => 0))), (t4, .inl (k 0, 16, .inl (fun _ => 0))), (t5, .inl (k 0, 16, .inl (fun _ => 0))), (t6, .inl (k 0, 16, .inl (fun _ => 0))), (t7, .inl (k 0, 16, .inl (fun _ => 0))), (t8, .inr (0, [.ref t9, .ref t10])), (t9, .inl (k 0, 36, .inl (fun _ => 0))), (t10, .inl (k 0, 6, .inl (fun _ => 0))), (t11, .inl (k 0, 6, .inl (fun _ => 0)))] := hD
  have hP := hP.sub (ws' := [(h0, .inr (3, [.ref h1, .int 0, .int 0])), (h1, .inl (k 4, 9, .inr (.inr (.inr (.inr (rgf w 9)))))), ((w 0), .inr (8, [.int 0, .ref r1, .ref r2, .ref r8, .ref r11, .int 1, .int 0, .int 0, .int 0])), (r1, .inl (k 1, 6, .inr (.inl (fun _ => 0)))), (r2, .inr (1, [.int 0, .ref r3, .ref r4, .ref r5, .ref r6, .ref r7])), (r3, .inl (k 0, 16, .inl (fun _ => 0))), (r4, .inl (k 0, 16, .inl (fun _ => 0))), (r5, .inl (k 0, 16, .inl (fun _ => 0))), (r6, .inl (k 0, 16, .inl (fun _ => 0))), (r7, .inl (k 0, 16, .inl (fun _ => 0))), (r8, .inr (0, [.ref r9, .ref r10])), (r9, .inl (k 0, 36, .inl (fun _ => 0))), (r10, .inl (k 0, 6, .inl (fun _ => 0))), (r11, .inl (k 0, 6, .inl (fun _ => 0))), (t0, .inr (8, [.int 0, .ref t1, .ref t2, .ref t8, .ref t11, .int 1, .int 0, .int 0, .int 0])), (t1, .inl (k 1, 6, .inr (.inl (fun _ => 0)))), (t2, .inr (1, [.int 0, .ref t3, .ref t4, .ref t5, .ref t6, .ref t7])), (t3, .inl (k 0, 16, .inl (fun _ => 0))), (t4, .inl (k 0, 16, .inl (fun _ => 0))), (t5, .inl (k 0, 16, .inl (fun _ => 0))), (t6, .inl (k 0, 16, .inl (fun _ => 0))), (t7, .inl (k 0, 16, .inl (fun _ => 0))), (t8, .inr (0, [.ref t9, .ref t10])), (t9, .inl (k 0, 36, .inl (fun _ => 0))), (t10, .inl (k 0, 6, .inl (fun _ => 0))), (t11, .inl (k 0, 6, .inl (fun _ => 0)))]) [0, 1, 2, 3, 4, 5, 6, 7, 8, 9, 10, 11, 12, 13, 14, 15, 16, 17, 18, 19, 20, 21, 22, 23, 24, 25] rfl
  have hD := hD.sub (ws' := [(h0, .inr (3, [.ref h1, .int 0, .int 0])), (h1, .inl (k 4, 9, .inr (.inr (.inr (.inr (rgf w 9)))))), ((w 0), .inr (8, [.int 0, .ref r1, .ref r2, .ref r8, .ref r11, .int 1, .int 0, .int 0, .int 0])), (r1, .inl (k 1, 6, .inr (.inl (fun _ => 0)))), (r2, .inr (1, [.int 0, .ref r3, .ref r4, .ref r5, .ref r6, .ref r7])), (r3, .inl (k 0, 16, .inl (fun _ => 0))), (r4, .inl (k 0, 16, .inl (fun _ => 0))), (r5, .inl (k 0, 16, .inl (fun _ => 0))), (r6, .inl (k 0, 16, .inl (fun _ => 0))), (r7, .inl (k 0, 16, .inl (fun _ => 0))), (r8, .inr (0, [.ref r9, .ref r10])), (r9, .inl (k 0, 36, .inl (fun _ => 0))), (r10, .inl (k 0, 6, .inl (fun _ => 0))), (r11, .inl (k 0, 6, .inl (fun _ => 0))), (t0, .inr (8, [.int 0, .ref t1, .ref t2, .ref t8, .ref t11, .int 1, .int 0, .int 0, .int 0])), (t1, .inl (k 1, 6, .inr (.inl (fun _ => 0)))), (t2, .inr (1, [.int 0, .ref t3, .ref t4, .ref t5, .ref t6, .ref t7])), (t3, .inl (k 0, 16, .inl (fun _ => 0))), (t4, .inl (k 0, 16, .inl (fun _ => 0))), (t5, .inl (k 0, 16, .inl (fun _ => 0))), (t6, .inl (k 0, 16, .inl (fun _ => 0))), (t7, .inl (k 0, 16, .inl (fun _ => 0))), (t8, .inr (0, [.ref t9, .ref t10])), (t9, .inl (k 0, 36, .inl (fun _ => 0))), (t10, .inl (k 0, 6, .inl (fun _ => 0))), (t11, .inl (k 0, 6, .inl (fun _ => 0)))]) [0, 1, 2, 3, 4, 5, 6, 7, 8, 9, 10, 11, 12, 13, 14, 15, 16, 17, 18, 19, 20, 21, 22, 23, 24, 25] (by decide) rfl
  exact g_vret hx hb hr hlocks hK (fun _ => 0) hP hD hS dX5_hold_13 ⟨Nat.le_of_ble_eq_true rfl, Nat.le_of_ble_eq_true rfl⟩
set_option maxHeartbeats 4000000 in
set_option maxRecDepth 100000 in
theorem cP_keep (l : Launch) (D : va_G) (k : Nat → ClassId) (h0 : Nat) (h1 : Nat) : g_Cv l yX5_keep wsX5_keep ({ frames := 1, cells := 0, slots := 0, locals := 15 }) D k g_E0 [.ref h0] [(h0, .inr (3, [.ref h1, .int 0, .int 0]))] (fun u => [(h0, .inr (3, [.ref h1, .int 1, .int 1]))]) 0 0 := by
  intro sz
  refine Met.ofW (cc := cX5_keep) (maxL := 1) (ret := none) (by decide) rfl ?_
  intro p e s m args below meth c s₁ B hml hv
  obtain ⟨rfl, hsz, hP, hK, hD0, hE⟩ := hv
  have hx := B.exec
  have hb := B.bytes
  have hr := B.returns
  have hts := atoms_spec (ws := wsX5_keep) B.pre
  have hown : s.vm.findClass RX5 = some m.cls := findClass_of_methodNamed B.named
  have hlocks := B.notSynchronized
  subst hsz
  have hD := hD0.self (sz := s.heap.size)
  generalize hAe : va_A [(h0, .inr (3, [.ref h1, .int 0, .int 0]))] s.heap.size = A at hD ⊢
  have hA : ∀ q : Nat, s.heap.size ≤ q → A q := fun q h => by rw [← hAe]; exact Or.inr h
  have hS : va_S A s.heap s.heap [] := va_S.rf
  have hP : va_P D vwCl [(h0, .inr (3, [.ref h1, .int 0, .int 0]))] s.heap := hP
  have hl := lv_entry ([.ref h0]) (n := 1) (Nat.le_of_ble_eq_true rfl)
  rw [lg_entry_eq]
  generalize (lg_sl ([.ref h0]) ++ List.replicate (1 - (lg_sl ([.ref h0])).length) Slot.unset).toArray = ls at hl ⊢
  have hl : lv_has ls 1 [(0, .ref h0)] := hl
  refine lv_aload_n hx hb dX5_keep_0 rfl (lv_at hl 0 rfl) ?_
  refine lv_aload_n hx hb dX5_keep_1 rfl (lv_at hl 0 rfl) ?_
  refine va_get (D := D) (ci := 3) (v := .int 0) (C := RX5) (T := TX5) (N := 3) hx hb hts inX5_keep_X5 hown hK hP 0 rfl rfl 1 (by decide) (hts (.fieldLink RX5 20 "RungMoney$Past" "free" "I") (by decide +kernel)) (fun _ h9 => h9) rfl dX5_keep_2 ?_
  refine lv_iconst (v := 1) hx hb dX5_keep_5 (by decide) ?_
  refine lv_iadd hx hb dX5_keep_6 ?_
  refine lv_topi (fun x1 ex1 => ?_)
  obtain rfl : x1 = 1 := ex1.trans (by decide)
  refine lv_bipush (v := 9) hx hb dX5_keep_7 (by decide) ?_
  refine lv_icmp_ge (tgt := 21) hx hb dX5_keep_9 (by decide) (fun h9 => absurd h9 (by decide)) (fun _ => ?_)
  refine lv_aload_n hx hb dX5_keep_12 rfl (lv_at hl 0 rfl) ?_
  refine va_get (D := D) (ci := 3) (v := .int 0) (C := RX5) (T := TX5) (N := 3) hx hb hts inX5_keep_X5 hown hK hP 0 rfl rfl 1 (by decide) (hts (.fieldLink RX5 20 "RungMoney$Past" "free" "I") (by decide +kernel)) (fun _ h9 => h9) rfl dX5_keep_13 ?_
  refine lv_iconst (v := 1) hx hb dX5_keep_16 (by decide) ?_
  refine lv_iadd hx hb dX5_keep_17 ?_
  refine lv_topi (fun x2 ex2 => ?_)
  obtain rfl : x2 = 1 := ex2.trans (by decide)
  refine lv_goto (tgt := 22) hx hb dX5_keep_18 (by decide) ?_
  refine va_put (D := D) (ci := 3) (v := .int 1) (ty := .int) (C := RX5) (T := TX5) (N := 3) hx hb hts inX5_keep_X5 tyX5 tyX5_ok nmX5 hown hK hP hD hS 0 rfl rfl 1 (by decide) (hts (.fieldLink RX5 20 "RungMoney$Past" "free" "I") (by decide +kernel)) (fun _ h9 => h9) rfl (by decide +kernel) rfl rfl (Nat.le_of_ble_eq_true rfl) dX5_keep_22 (fun H locs hP hD hS => ?_)
  have hP : va_P D vwCl [(h0, .inr (3, [.ref h1, .int 1, .int 0]))] H := hP
  have hD : va_D A [(h0, .inr (3, [.ref h1, .int 1, .int 0]))] := hD
  refine lv_aload_n hx hb dX5_keep_25 rfl (lv_at hl 0 rfl) ?_
  refine lv_aload_n hx hb dX5_keep_26 rfl (lv_at hl 0 rfl) ?_
  refine va_get (D := D) (ci := 3) (v := .int 0) (C := RX5) (T := TX5) (N := 3) hx hb hts inX5_keep_X5 hown hK hP 0 rfl rfl 2 (by decide) (hts (.fieldLink RX5 16 "RungMoney$Past" "size" "I") (by decide +kernel)) (fun _ h9 => h9) rfl dX5_keep_27 ?_
  refine lv_iconst (v := 1) hx hb dX5_keep_30 (by decide) ?_
  refine lv_iadd hx hb dX5_keep_31 ?_
  refine lv_topi (fun x3 ex3 => ?_)
  obtain rfl : x3 = 1 := ex3.trans (by decide)
  refine lv_bipush (v := 8) hx hb dX5_keep_32 (by decide) ?_
  refine va_mmin hx hb (by rw [hml]; exact hl.1.symm) hown (hts (.methodLink RX5 27 Lib.Math.min.name) (by decide +kernel)) (hts (.static Lib.Math.min.name) (by decide +kernel)) (hts (.initialized "java/lang/Math") (by decide +kernel)) (hts (.code Lib.Math.min.name Lib.Math.min.code 2 (some .int)) (by decide +kernel)) (Nat.le_of_ble_eq_true rfl) (Nat.le_of_ble_eq_true rfl) (Nat.le_of_ble_eq_true rfl) (Nat.le_of_ble_eq_true rfl) dX5_keep_34 ?_
  refine lv_topi (fun x4 ex4 => ?_)
  obtain rfl : x4 = 1 := ex4.trans (by decide)
  refine va_put (D := D) (ci := 3) (v := .int 1) (ty := .int) (C := RX5) (T := TX5) (N := 3) hx hb hts inX5_keep_X5 tyX5 tyX5_ok nmX5 hown hK hP hD hS 0 rfl rfl 2 (by decide) (hts (.fieldLink RX5 16 "RungMoney$Past" "size" "I") (by decide +kernel)) (fun _ h9 => h9) rfl (by decide +kernel) rfl rfl (Nat.le_of_ble_eq_true rfl) dX5_keep_37 (fun H locs hP hD hS => ?_)
  have hP : va_P D vwCl [(h0, .inr (3, [.ref h1, .int 1, .int 1]))] H := hP
  have hD : va_D A [(h0, .inr (3, [.ref h1, .int 1, .int 1]))] := hD
  have hP := hP.sub (ws' := [(h0, .inr (3, [.ref h1, .int 1, .int 1]))]) [0] rfl
  have hD := hD.sub (ws' := [(h0, .inr (3, [.ref h1, .int 1, .int 1]))]) [0] (by decide) rfl
  exact g_vret hx hb hr hlocks hK (fun _ => 0) hP hD hS dX5_keep_40 ⟨Nat.le_of_ble_eq_true rfl, Nat.le_of_ble_eq_true rfl⟩
set_option maxHeartbeats 4000000 in
set_option maxRecDepth 100000 in
theorem cP_takeBack (l : Launch) (D : va_G) (k : Nat → ClassId) (h0 : Nat) (h1 : Nat) (t0 : Nat) : g_Ci l yX5_takeBack wsX5_takeBack ({ frames := 0, cells := 0, slots := 0, locals := 0 }) D k g_E0 [.ref h0, .ref t0] [(h0, .inr (3, [.ref h1, .int 0, .int 0]))] 0 (fun u => [(h0, .inr (3, [.ref h1, .int 0, .int 0]))]) 0 0 := by
  intro sz
  refine Met.ofW (cc := cX5_takeBack) (maxL := 2) (ret := (some .boolean)) (by decide) rfl ?_
  intro p e s m args below meth c s₁ B hml hv
  obtain ⟨rfl, hsz, hP, hK, hD0, hE⟩ := hv
  have hx := B.exec
  have hb := B.bytes
  have hr := B.returns
  have hts := atoms_spec (ws := wsX5_takeBack) B.pre
  have hown : s.vm.findClass RX5 = some m.cls := findClass_of_methodNamed B.named
  have hlocks := B.notSynchronized
  subst hsz
  have hD := hD0.self (sz := s.heap.size)
  generalize hAe : va_A [(h0, .inr (3, [.ref h1, .int 0, .int 0]))] s.heap.size = A at hD ⊢
  have hA : ∀ q : Nat, s.heap.size ≤ q → A q := fun q h => by rw [← hAe]; exact Or.inr h
  have hS : va_S A s.heap s.heap [] := va_S.rf
  have hP : va_P D vwCl [(h0, .inr (3, [.ref h1, .int 0, .int 0]))] s.heap := hP
  have hl := lv_entry ([.ref h0, .ref t0]) (n := 2) (Nat.le_of_ble_eq_true rfl)
  rw [lg_entry_eq]
  generalize (lg_sl ([.ref h0, .ref t0]) ++ List.replicate (2 - (lg_sl ([.ref h0, .ref t0])).length) Slot.unset).toArray = ls at hl ⊢
  have hl : lv_has ls 2 [(0, .ref h0), (1, .ref t0)] := hl
  refine lv_aload_n hx hb dX5_takeBack_0 rfl (lv_at hl 0 rfl) ?_
  refine va_get (D := D) (ci := 3) (v := .int 0) (C := RX5) (T := TX5) (N := 3) hx hb hts inX5_takeBack_X5 hown hK hP 0 rfl rfl 2 (by decide) (hts (.fieldLink RX5 16 "RungMoney$Past" "size" "I") (by decide +kernel)) (fun _ h9 => h9) rfl dX5_takeBack_1 ?_
  refine lv_if_ne (tgt := 9) hx hb dX5_takeBack_4 (by decide) (fun h9 => absurd rfl h9) (fun _ => ?_)
  refine lv_iconst (v := 0) hx hb dX5_takeBack_7 (by decide) ?_
  have hP := hP.sub (ws' := [(h0, .inr (3, [.ref h1, .int 0, .int 0]))]) [0] rfl
  have hD := hD.sub (ws' := [(h0, .inr (3, [.ref h1, .int 0, .int 0]))]) [0] (by decide) rfl
  exact g_iret hx hb hr rfl hlocks hK (fun _ => 0) hP hD hS rfl dX5_takeBack_8 ⟨Nat.le_of_ble_eq_true rfl, Nat.le_of_ble_eq_true rfl⟩
set_option maxHeartbeats 4000000 in
set_option maxRecDepth 100000 in
theorem cP_forget (l : Launch) (D : va_G) (k : Nat → ClassId) (h0 : Nat) (h1 : Nat) : g_Cv l yX5_forget wsX5_forget ({ frames := 0, cells := 0, slots := 0, locals := 0 }) D k g_E0 [.ref h0] [(h0, .inr (3, [.ref h1, .int 0, .int 0]))] (fun u => [(h0, .inr (3, [.ref h1, .int 0, .int 0]))]) 0 0 := by
  intro sz
  refine Met.ofW (cc := cX5_forget) (maxL := 1) (ret := none) (by decide) rfl ?_
  intro p e s m args below meth c s₁ B hml hv
  obtain ⟨rfl, hsz, hP, hK, hD0, hE⟩ := hv
  have hx := B.exec
  have hb := B.bytes
  have hr := B.returns
  have hts := atoms_spec (ws := wsX5_forget) B.pre
  have hown : s.vm.findClass RX5 = some m.cls := findClass_of_methodNamed B.named
  have hlocks := B.notSynchronized
  subst hsz
  have hD := hD0.self (sz := s.heap.size)
  generalize hAe : va_A [(h0, .inr (3, [.ref h1, .int 0, .int 0]))] s.heap.size = A at hD ⊢
  have hA : ∀ q : Nat, s.heap.size ≤ q → A q := fun q h => by rw [← hAe]; exact Or.inr h
  have hS : va_S A s.heap s.heap [] := va_S.rf
  have hP : va_P D vwCl [(h0, .inr (3, [.ref h1, .int 0, .int 0]))] s.heap := hP
  have hl := lv_entry ([.ref h0]) (n := 1) (Nat.le_of_ble_eq_true rfl)
  rw [lg_entry_eq]
  generalize (lg_sl ([.ref h0]) ++ List.replicate (1 - (lg_sl ([.ref h0])).length) Slot.unset).toArray = ls at hl ⊢
  have hl : lv_has ls 1 [(0, .ref h0)] := hl
  refine lv_aload_n hx hb dX5_forget_0 rfl (lv_at hl 0 rfl) ?_
  refine lv_iconst (v := 0) hx hb dX5_forget_1 (by decide) ?_
  refine va_put (D := D) (ci := 3) (v := .int 0) (ty := .int) (C := RX5) (T := TX5) (N := 3) hx hb hts inX5_forget_X5 tyX5 tyX5_ok nmX5 hown hK hP hD hS 0 rfl rfl 2 (by decide) (hts (.fieldLink RX5 16 "RungMoney$Past" "size" "I") (by decide +kernel)) (fun _ h9 => h9) rfl (by decide +kernel) rfl rfl (Nat.le_of_ble_eq_true rfl) dX5_forget_2 (fun H locs hP hD hS => ?_)
  have hP : va_P D vwCl [(h0, .inr (3, [.ref h1, .int 0, .int 0]))] H := hP
  have hD : va_D A [(h0, .inr (3, [.ref h1, .int 0, .int 0]))] := hD
  have hP := hP.sub (ws' := [(h0, .inr (3, [.ref h1, .int 0, .int 0]))]) [0] rfl
  have hD := hD.sub (ws' := [(h0, .inr (3, [.ref h1, .int 0, .int 0]))]) [0] (by decide) rfl
  exact g_vret hx hb hr hlocks hK (fun _ => 0) hP hD hS dX5_forget_5 ⟨Nat.le_of_ble_eq_true rfl, Nat.le_of_ble_eq_true rfl⟩
set_option maxHeartbeats 4000000 in
set_option maxRecDepth 100000 in
theorem cS_forget (l : Launch) (D : va_G) (k : Nat → ClassId) (s0 : Nat) (s1 : Nat) (s2 : Nat) (s3 : Nat) (s4 : Nat) : g_Cv l yX8_forget wsX8_forget ({ frames := 0, cells := 0, slots := 0, locals := 0 }) D k g_E0 [.ref s0] [(s0, .inr (6, [.ref s1, .ref s2, .ref s3, .ref s4, .int 0, .int 0]))] (fun u => [(s0, .inr (6, [.ref s1, .ref s2, .ref s3, .ref s4, .int 0, .int 0]))]) 0 0 := by
  intro sz
  refine Met.ofW (cc := cX8_forget) (maxL := 1) (ret := none) (by decide) rfl ?_
  intro p e s m args below meth c s₁ B hml hv
  obtain ⟨rfl, hsz, hP, hK, hD0, hE⟩ := hv
  have hx := B.exec
  have hb := B.bytes
  have hr := B.returns
  have hts := atoms_spec (ws := wsX8_forget) B.pre
  have hown : s.vm.findClass RX8 = some m.cls := findClass_of_methodNamed B.named
  have hlocks := B.notSynchronized
  subst hsz
  have hD := hD0.self (sz := s.heap.size)
  generalize hAe : va_A [(s0, .inr (6, [.ref s1, .ref s2, .ref s3, .ref s4, .int 0, .int 0]))] s.heap.size = A at hD ⊢
  have hA : ∀ q : Nat, s.heap.size ≤ q → A q := fun q h => by rw [← hAe]; exact Or.inr h
  have hS : va_S A s.heap s.heap [] := va_S.rf
  have hP : va_P D vwCl [(s0, .inr (6, [.ref s1, .ref s2, .ref s3, .ref s4, .int 0, .int 0]))] s.heap := hP
  have hl := lv_entry ([.ref s0]) (n := 1) (Nat.le_of_ble_eq_true rfl)
  rw [lg_entry_eq]
  generalize (lg_sl ([.ref s0]) ++ List.replicate (1 - (lg_sl ([.ref s0])).length) Slot.unset).toArray = ls at hl ⊢
  have hl : lv_has ls 1 [(0, .ref s0)] := hl
  refine lv_aload_n hx hb dX8_forget_0 rfl (lv_at hl 0 rfl) ?_
  refine lv_iconst (v := 0) hx hb dX8_forget_1 (by decide) ?_
  refine va_put (D := D) (ci := 6) (v := .int 0) (ty := .int) (C := RX8) (T := TX8) (N := 6) hx hb hts inX8_forget_X8 tyX8 tyX8_ok nmX8 hown hK hP hD hS 0 rfl rfl 4 (by decide) (hts (.fieldLink RX8 29 "RungMoney$Sentence" "size" "I") (by decide +kernel)) (fun _ h9 => h9) rfl (by decide +kernel) rfl rfl (Nat.le_of_ble_eq_true rfl) dX8_forget_2 (fun H locs hP hD hS => ?_)
  have hP : va_P D vwCl [(s0, .inr (6, [.ref s1, .ref s2, .ref s3, .ref s4, .int 0, .int 0]))] H := hP
  have hD : va_D A [(s0, .inr (6, [.ref s1, .ref s2, .ref s3, .ref s4, .int 0, .int 0]))] := hD
  refine lv_aload_n hx hb dX8_forget_5 rfl (lv_at hl 0 rfl) ?_
  refine lv_iconst (v := 0) hx hb dX8_forget_6 (by decide) ?_
  refine va_put (D := D) (ci := 6) (v := .int 0) (ty := .int) (C := RX8) (T := TX8) (N := 6) hx hb hts inX8_forget_X8 tyX8 tyX8_ok nmX8 hown hK hP hD hS 0 rfl rfl 5 (by decide) (hts (.fieldLink RX8 33 "RungMoney$Sentence" "ones" "I") (by decide +kernel)) (fun _ h9 => h9) rfl (by decide +kernel) rfl rfl (Nat.le_of_ble_eq_true rfl) dX8_forget_7 (fun H locs hP hD hS => ?_)
  have hP : va_P D vwCl [(s0, .inr (6, [.ref s1, .ref s2, .ref s3, .ref s4, .int 0, .int 0]))] H := hP
  have hD : va_D A [(s0, .inr (6, [.ref s1, .ref s2, .ref s3, .ref s4, .int 0, .int 0]))] := hD
  have hP := hP.sub (ws' := [(s0, .inr (6, [.ref s1, .ref s2, .ref s3, .ref s4, .int 0, .int 0]))]) [0] rfl
  have hD := hD.sub (ws' := [(s0, .inr (6, [.ref s1, .ref s2, .ref s3, .ref s4, .int 0, .int 0]))]) [0] (by decide) rfl
  exact g_vret hx hb hr hlocks hK (fun _ => 0) hP hD hS dX8_forget_10 ⟨Nat.le_of_ble_eq_true rfl, Nat.le_of_ble_eq_true rfl⟩
set_option maxHeartbeats 4000000 in
set_option maxRecDepth 100000 in
theorem cS_isTold (l : Launch) (D : va_G) (k : Nat → ClassId) (s0 : Nat) (s1 : Nat) (s2 : Nat) (s3 : Nat) (s4 : Nat) : g_Ci l yX8_isTold wsX8_isTold ({ frames := 0, cells := 0, slots := 0, locals := 0 }) D k g_E0 [.ref s0] [(s0, .inr (6, [.ref s1, .ref s2, .ref s3, .ref s4, .int 0, .int 0]))] 0 (fun u => [(s0, .inr (6, [.ref s1, .ref s2, .ref s3, .ref s4, .int 0, .int 0]))]) 0 0 := by
  intro sz
  refine Met.ofW (cc := cX8_isTold) (maxL := 1) (ret := (some .boolean)) (by decide) rfl ?_
  intro p e s m args below meth c s₁ B hml hv
  obtain ⟨rfl, hsz, hP, hK, hD0, hE⟩ := hv
  have hx := B.exec
  have hb := B.bytes
  have hr := B.returns
  have hts := atoms_spec (ws := wsX8_isTold) B.pre
  have hown : s.vm.findClass RX8 = some m.cls := findClass_of_methodNamed B.named
  have hlocks := B.notSynchronized
  subst hsz
  have hD := hD0.self (sz := s.heap.size)
  generalize hAe : va_A [(s0, .inr (6, [.ref s1, .ref s2, .ref s3, .ref s4, .int 0, .int 0]))] s.heap.size = A at hD ⊢
  have hA : ∀ q : Nat, s.heap.size ≤ q → A q := fun q h => by rw [← hAe]; exact Or.inr h
  have hS : va_S A s.heap s.heap [] := va_S.rf
  have hP : va_P D vwCl [(s0, .inr (6, [.ref s1, .ref s2, .ref s3, .ref s4, .int 0, .int 0]))] s.heap := hP
  have hl := lv_entry ([.ref s0]) (n := 1) (Nat.le_of_ble_eq_true rfl)
  rw [lg_entry_eq]
  generalize (lg_sl ([.ref s0]) ++ List.replicate (1 - (lg_sl ([.ref s0])).length) Slot.unset).toArray = ls at hl ⊢
  have hl : lv_has ls 1 [(0, .ref s0)] := hl
  refine lv_aload_n hx hb dX8_isTold_0 rfl (lv_at hl 0 rfl) ?_
  refine va_get (D := D) (ci := 6) (v := .int 0) (C := RX8) (T := TX8) (N := 6) hx hb hts inX8_isTold_X8 hown hK hP 0 rfl rfl 5 (by decide) (hts (.fieldLink RX8 33 "RungMoney$Sentence" "ones" "I") (by decide +kernel)) (fun _ h9 => h9) rfl dX8_isTold_1 ?_
  refine lv_if_le (tgt := 11) hx hb dX8_isTold_4 (by decide) (fun _ => ?_) (fun h9 => absurd (by decide) h9)
  refine lv_iconst (v := 0) hx hb dX8_isTold_11 (by decide) ?_
  have hP := hP.sub (ws' := [(s0, .inr (6, [.ref s1, .ref s2, .ref s3, .ref s4, .int 0, .int 0]))]) [0] rfl
  have hD := hD.sub (ws' := [(s0, .inr (6, [.ref s1, .ref s2, .ref s3, .ref s4, .int 0, .int 0]))]) [0] (by decide) rfl
  exact g_iret hx hb hr rfl hlocks hK (fun _ => 0) hP hD hS rfl dX8_isTold_12 ⟨Nat.le_of_ble_eq_true rfl, Nat.le_of_ble_eq_true rfl⟩
set_option maxHeartbeats 4000000 in
set_option maxRecDepth 100000 in
theorem cT_passWinters1 (l : Launch) (D : va_G) (k : Nat → ClassId) (a0 : Nat) (a1 : Nat) (a2 : Nat) (a3 : Nat) (a4 : Nat) (a5 : Nat) (a6 : Nat) (a7 : Nat) (a8 : Nat) (a11 : Nat) (p0 : Int32) : g_Ci l yX10_passWinters wsX10_passWinters ({ frames := 1, cells := 0, slots := 0, locals := 25 }) D k g_E0 [.ref a0, .int 1, .int p0] [(a0, .inr (8, [.int 0, .ref a1, .ref a2, .ref a8, .ref a11, .int 1, .int 0, .int 0, .int 0])), (a2, .inr (1, [.int 0, .ref a3, .ref a4, .ref a5, .ref a6, .ref a7]))] 1 (fun u => [(a0, .inr (8, [.int 0, .ref a1, .ref a2, .ref a8, .ref a11, .int 1, .int 1, .int 0, .int 0])), (a2, .inr (1, [.int 0, .ref a3, .ref a4, .ref a5, .ref a6, .ref a7]))]) 0 0 := by
  intro sz
  refine Met.ofW (cc := cX10_passWinters) (maxL := 5) (ret := (some .int)) (by decide) rfl ?_
  intro p e s m args below meth c s₁ B hml hv
  obtain ⟨rfl, hsz, hP, hK, hD0, hE⟩ := hv
  have hx := B.exec
  have hb := B.bytes
  have hr := B.returns
  have hts := atoms_spec (ws := wsX10_passWinters) B.pre
  have hown : s.vm.findClass RX10 = some m.cls := findClass_of_methodNamed B.named
  have hlocks := B.notSynchronized
  subst hsz
  have hD := hD0.self (sz := s.heap.size)
  generalize hAe : va_A [(a0, .inr (8, [.int 0, .ref a1, .ref a2, .ref a8, .ref a11, .int 1, .int 0, .int 0, .int 0])), (a2, .inr (1, [.int 0, .ref a3, .ref a4, .ref a5, .ref a6, .ref a7]))] s.heap.size = A at hD ⊢
  have hA : ∀ q : Nat, s.heap.size ≤ q → A q := fun q h => by rw [← hAe]; exact Or.inr h
  have hS : va_S A s.heap s.heap [] := va_S.rf
  have hP : va_P D vwCl [(a0, .inr (8, [.int 0, .ref a1, .ref a2, .ref a8, .ref a11, .int 1, .int 0, .int 0, .int 0])), (a2, .inr (1, [.int 0, .ref a3, .ref a4, .ref a5, .ref a6, .ref a7]))] s.heap := hP
  have hl := lv_entry ([.ref a0, .int 1, .int p0]) (n := 5) (Nat.le_of_ble_eq_true rfl)
  rw [lg_entry_eq]
  generalize (lg_sl ([.ref a0, .int 1, .int p0]) ++ List.replicate (5 - (lg_sl ([.ref a0, .int 1, .int p0])).length) Slot.unset).toArray = ls at hl ⊢
  have hl : lv_has ls 5 [(0, .ref a0), (1, .int 1), (2, .int p0)] := hl
  refine lv_iload_n hx hb dX10_passWinters_0 rfl (lv_at hl 2 rfl) ?_
  refine lv_istore_n (lv' := [(3, .int p0), (0, .ref a0), (1, .int 1), (2, .int p0)]) hx hb dX10_passWinters_1 rfl hl (by decide) rfl (fun ls hl => ?_)
  refine lv_iconst (v := 0) hx hb dX10_passWinters_2 (by decide) ?_
  refine lv_istore (lv' := [(4, .int 0), (3, .int p0), (0, .ref a0), (1, .int 1), (2, .int p0)]) hx hb dX10_passWinters_3 hl (by decide) rfl (fun ls hl => ?_)
  refine lv_iload hx hb dX10_passWinters_5 (lv_at hl 0 rfl) ?_
  refine lv_iload_n hx hb dX10_passWinters_7 rfl (lv_at hl 3 rfl) ?_
  refine lv_icmp_ge (tgt := 49) hx hb dX10_passWinters_8 (by decide) (fun h9 => absurd h9 (by decide)) (fun _ => ?_)
  refine lv_aload_n hx hb dX10_passWinters_11 rfl (lv_at hl 2 rfl) ?_
  refine va_get (D := D) (ci := 8) (v := .int 0) (C := RX10) (T := TX10) (N := 9) hx hb hts inX10_passWinters_X10 hown hK hP 0 rfl rfl 6 (by decide) (hts (.fieldLink RX10 52 "RungMoney$Town" "winters" "I") (by decide +kernel)) (fun _ h9 => h9) rfl dX10_passWinters_12 ?_
  refine lv_bipush (v := 99) hx hb dX10_passWinters_15 (by decide) ?_
  refine lv_icmp_ge (tgt := 49) hx hb dX10_passWinters_17 (by decide) (fun h9 => absurd h9 (by decide)) (fun _ => ?_)
  refine lv_aload_n hx hb dX10_passWinters_20 rfl (lv_at hl 2 rfl) ?_
  refine va_get (D := D) (ci := 8) (v := .ref a2) (C := RX10) (T := TX10) (N := 9) hx hb hts inX10_passWinters_X10 hown hK hP 0 rfl rfl 2 (by decide) (hts (.fieldLink RX10 18 "RungMoney$Town" "ladders" "LRungMoney$Ladders;") (by decide +kernel)) (fun _ h9 => h9) rfl dX10_passWinters_21 ?_
  refine lv_iload_n hx hb dX10_passWinters_24 rfl (lv_at hl 1 rfl) ?_
  refine lv_aload_n hx hb dX10_passWinters_25 rfl (lv_at hl 2 rfl) ?_
  refine va_get (D := D) (ci := 8) (v := .int 1) (C := RX10) (T := TX10) (N := 9) hx hb hts inX10_passWinters_X10 hown hK hP 0 rfl rfl 5 (by decide) (hts (.fieldLink RX10 33 "RungMoney$Town" "rot" "I") (by decide +kernel)) (fun _ h9 => h9) rfl dX10_passWinters_26 ?_
  refine g_iV (As := [.int p0, .int 1]) (rest := []) (wr := [(a0, .inr (8, [.int 0, .ref a1, .ref a2, .ref a8, .ref a11, .int 1, .int 0, .int 0, .int 0]))]) ⟨hx, hb, hml, hown, hts⟩ (cL_rotBy l D k a2 a3 a4 a5 a6 a7 p0 1) (cwV 2 hts gX10_passWinters_X3_rotBy rfl rfl rfl (by decide +kernel) ⟨Nat.le_of_ble_eq_true rfl, Nat.le_of_ble_eq_true rfl⟩) g_E0_ok (fun _ _ _ => trivial) hK hP hD hS hA 1 1 rfl rfl rfl [1] [0] rfl rfl (by decide) rfl hl.1 rfl (Nat.le_of_ble_eq_true rfl) dX10_passWinters_29 ⟨Nat.le_of_ble_eq_true rfl, Nat.le_of_ble_eq_true rfl⟩ (fun u1 H locs hP hD hS => ?_)
  have hP : va_P D vwCl [(a0, .inr (8, [.int 0, .ref a1, .ref a2, .ref a8, .ref a11, .int 1, .int 0, .int 0, .int 0])), (a2, .inr (1, [.int 0, .ref a3, .ref a4, .ref a5, .ref a6, .ref a7]))] H := hP
  have hD : va_D A [(a0, .inr (8, [.int 0, .ref a1, .ref a2, .ref a8, .ref a11, .int 1, .int 0, .int 0, .int 0])), (a2, .inr (1, [.int 0, .ref a3, .ref a4, .ref a5, .ref a6, .ref a7]))] := hD
  refine lv_istore_n (lv' := [(3, .int p0), (4, .int 0), (0, .ref a0), (1, .int 1), (2, .int p0)]) hx hb dX10_passWinters_32 rfl hl (by decide) rfl (fun ls hl => ?_)
  refine lv_aload_n hx hb dX10_passWinters_33 rfl (lv_at hl 2 rfl) ?_
  refine lv_dup hx hb dX10_passWinters_34 rfl ?_
  refine va_get (D := D) (ci := 8) (v := .int 0) (C := RX10) (T := TX10) (N := 9) hx hb hts inX10_passWinters_X10 hown hK hP 0 rfl rfl 6 (by decide) (hts (.fieldLink RX10 52 "RungMoney$Town" "winters" "I") (by decide +kernel)) (fun _ h9 => h9) rfl dX10_passWinters_35 ?_
  refine lv_iconst (v := 1) hx hb dX10_passWinters_38 (by decide) ?_
  refine lv_iadd hx hb dX10_passWinters_39 ?_
  refine lv_topi (fun x2 ex2 => ?_)
  obtain rfl : x2 = 1 := ex2.trans (by decide)
  refine va_put (D := D) (ci := 8) (v := .int 1) (ty := .int) (C := RX10) (T := TX10) (N := 9) hx hb hts inX10_passWinters_X10 tyX10 tyX10_ok nmX10 hown hK hP hD hS 0 rfl rfl 6 (by decide) (hts (.fieldLink RX10 52 "RungMoney$Town" "winters" "I") (by decide +kernel)) (fun _ h9 => h9) rfl (by decide +kernel) rfl rfl (Nat.le_of_ble_eq_true rfl) dX10_passWinters_40 (fun H locs hP hD hS => ?_)
  have hP : va_P D vwCl [(a0, .inr (8, [.int 0, .ref a1, .ref a2, .ref a8, .ref a11, .int 1, .int 1, .int 0, .int 0])), (a2, .inr (1, [.int 0, .ref a3, .ref a4, .ref a5, .ref a6, .ref a7]))] H := hP
  have hD : va_D A [(a0, .inr (8, [.int 0, .ref a1, .ref a2, .ref a8, .ref a11, .int 1, .int 1, .int 0, .int 0])), (a2, .inr (1, [.int 0, .ref a3, .ref a4, .ref a5, .ref a6, .ref a7]))] := hD
  refine lv_iinc (v := 1) (lv' := [(4, .int 1), (3, .int p0), (0, .ref a0), (1, .int 1), (2, .int p0)]) hx hb dX10_passWinters_43 hl (k := 1) rfl (by decide) (by decide) rfl (fun ls hl => ?_)
  refine lv_goto (tgt := 5) hx hb dX10_passWinters_46 (by decide) ?_
  refine lv_iload hx hb dX10_passWinters_5 (lv_at hl 0 rfl) ?_
  refine lv_iload_n hx hb dX10_passWinters_7 rfl (lv_at hl 3 rfl) ?_
  refine lv_icmp_ge (tgt := 49) hx hb dX10_passWinters_8 (by decide) (fun _ => ?_) (fun h9 => absurd (by decide) h9)
  refine lv_iload hx hb dX10_passWinters_49 (lv_at hl 0 rfl) ?_
  have hP := hP.sub (ws' := [(a0, .inr (8, [.int 0, .ref a1, .ref a2, .ref a8, .ref a11, .int 1, .int 1, .int 0, .int 0])), (a2, .inr (1, [.int 0, .ref a3, .ref a4, .ref a5, .ref a6, .ref a7]))]) [0, 1] rfl
  have hD := hD.sub (ws' := [(a0, .inr (8, [.int 0, .ref a1, .ref a2, .ref a8, .ref a11, .int 1, .int 1, .int 0, .int 0])), (a2, .inr (1, [.int 0, .ref a3, .ref a4, .ref a5, .ref a6, .ref a7]))]) [0, 1] (by decide) rfl
  exact g_iret hx hb hr rfl hlocks hK (fun _ => 0) hP hD hS rfl dX10_passWinters_51 ⟨Nat.le_of_ble_eq_true rfl, Nat.le_of_ble_eq_true rfl⟩
set_option maxHeartbeats 4000000 in
set_option maxRecDepth 100000 in
theorem cT_passWinter (l : Launch) (D : va_G) (k : Nat → ClassId) (a0 : Nat) (a1 : Nat) (a2 : Nat) (a3 : Nat) (a4 : Nat) (a5 : Nat) (a6 : Nat) (a7 : Nat) (a8 : Nat) (a11 : Nat) (p0 : Int32) : g_Ci l yX10_passWinter wsX10_passWinter ({ frames := 2, cells := 0, slots := 0, locals := 49 }) D k g_E0 [.ref a0, .int p0] [(a0, .inr (8, [.int 0, .ref a1, .ref a2, .ref a8, .ref a11, .int 1, .int 0, .int 0, .int 0])), (a2, .inr (1, [.int 0, .ref a3, .ref a4, .ref a5, .ref a6, .ref a7]))] 0 (fun u => [(a0, .inr (8, [.int 0, .ref a1, .ref a2, .ref a8, .ref a11, .int 1, .int 1, .int 0, .int 0])), (a2, .inr (1, [.int 0, .ref a3, .ref a4, .ref a5, .ref a6, .ref a7]))]) 0 0 := by
  intro sz
  refine Met.ofW (cc := cX10_passWinter) (maxL := 2) (ret := (some .int)) (by decide) rfl ?_
  intro p e s m args below meth c s₁ B hml hv
  obtain ⟨rfl, hsz, hP, hK, hD0, hE⟩ := hv
  have hx := B.exec
  have hb := B.bytes
  have hr := B.returns
  have hts := atoms_spec (ws := wsX10_passWinter) B.pre
  have hown : s.vm.findClass RX10 = some m.cls := findClass_of_methodNamed B.named
  have hlocks := B.notSynchronized
  subst hsz
  have hD := hD0.self (sz := s.heap.size)
  generalize hAe : va_A [(a0, .inr (8, [.int 0, .ref a1, .ref a2, .ref a8, .ref a11, .int 1, .int 0, .int 0, .int 0])), (a2, .inr (1, [.int 0, .ref a3, .ref a4, .ref a5, .ref a6, .ref a7]))] s.heap.size = A at hD ⊢
  have hA : ∀ q : Nat, s.heap.size ≤ q → A q := fun q h => by rw [← hAe]; exact Or.inr h
  have hS : va_S A s.heap s.heap [] := va_S.rf
  have hP : va_P D vwCl [(a0, .inr (8, [.int 0, .ref a1, .ref a2, .ref a8, .ref a11, .int 1, .int 0, .int 0, .int 0])), (a2, .inr (1, [.int 0, .ref a3, .ref a4, .ref a5, .ref a6, .ref a7]))] s.heap := hP
  have hl := lv_entry ([.ref a0, .int p0]) (n := 2) (Nat.le_of_ble_eq_true rfl)
  rw [lg_entry_eq]
  generalize (lg_sl ([.ref a0, .int p0]) ++ List.replicate (2 - (lg_sl ([.ref a0, .int p0])).length) Slot.unset).toArray = ls at hl ⊢
  have hl : lv_has ls 2 [(0, .ref a0), (1, .int p0)] := hl
  refine lv_aload_n hx hb dX10_passWinter_0 rfl (lv_at hl 0 rfl) ?_
  refine lv_iconst (v := 1) hx hb dX10_passWinter_1 (by decide) ?_
  refine lv_iload_n hx hb dX10_passWinter_2 rfl (lv_at hl 1 rfl) ?_
  refine g_iV (As := [.int 1, .int p0]) (rest := []) (wr := []) ⟨hx, hb, hml, hown, hts⟩ (cT_passWinters1 l D k a0 a1 a2 a3 a4 a5 a6 a7 a8 a11 p0) (cwV 2 hts gX10_passWinter_X10_passWinters rfl rfl rfl (by decide +kernel) ⟨Nat.le_of_ble_eq_true rfl, Nat.le_of_ble_eq_true rfl⟩) g_E0_ok (fun _ _ _ => trivial) hK hP hD hS hA 0 8 rfl rfl rfl [0, 1] [] rfl rfl (by decide) rfl hl.1 rfl (Nat.le_of_ble_eq_true rfl) dX10_passWinter_3 ⟨Nat.le_of_ble_eq_true rfl, Nat.le_of_ble_eq_true rfl⟩ (fun u1 H locs hP hD hS => ?_)
  have hP : va_P D vwCl [(a0, .inr (8, [.int 0, .ref a1, .ref a2, .ref a8, .ref a11, .int 1, .int 1, .int 0, .int 0])), (a2, .inr (1, [.int 0, .ref a3, .ref a4, .ref a5, .ref a6, .ref a7]))] H := hP
  have hD : va_D A [(a0, .inr (8, [.int 0, .ref a1, .ref a2, .ref a8, .ref a11, .int 1, .int 1, .int 0, .int 0])), (a2, .inr (1, [.int 0, .ref a3, .ref a4, .ref a5, .ref a6, .ref a7]))] := hD
  refine lv_iconst (v := 1) hx hb dX10_passWinter_6 (by decide) ?_
  refine lv_icmp_ne (tgt := 14) hx hb dX10_passWinter_7 (by decide) (fun h9 => absurd rfl h9) (fun _ => ?_)
  refine lv_iconst (v := 0) hx hb dX10_passWinter_10 (by decide) ?_
  refine lv_goto (tgt := 15) hx hb dX10_passWinter_11 (by decide) ?_
  have hP := hP.sub (ws' := [(a0, .inr (8, [.int 0, .ref a1, .ref a2, .ref a8, .ref a11, .int 1, .int 1, .int 0, .int 0])), (a2, .inr (1, [.int 0, .ref a3, .ref a4, .ref a5, .ref a6, .ref a7]))]) [0, 1] rfl
  have hD := hD.sub (ws' := [(a0, .inr (8, [.int 0, .ref a1, .ref a2, .ref a8, .ref a11, .int 1, .int 1, .int 0, .int 0])), (a2, .inr (1, [.int 0, .ref a3, .ref a4, .ref a5, .ref a6, .ref a7]))]) [0, 1] (by decide) rfl
  exact g_iret hx hb hr rfl hlocks hK (fun _ => 0) hP hD hS rfl dX10_passWinter_15 ⟨Nat.le_of_ble_eq_true rfl, Nat.le_of_ble_eq_true rfl⟩

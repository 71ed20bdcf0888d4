set_option maxRecDepth 20000 in
theorem ggX12_ladder_X3_has : GoodIn wsX12_ladder wsX3_has := goodIn_r _ [9, 10, 59, 60, 61, 62, 63, 64] (by decide +kernel) (by decide +kernel)
set_option maxRecDepth 20000 in
theorem gX12_ladder_X3_has : GoodIn wsX12_ladder (wsV RX12 146 RX3 yX3_has wsX3_has) := goodIn_app (goodIn_of _ (by decide +kernel)) ggX12_ladder_X3_has
theorem dX12_ladder_0 : decode cX12_ladder 0 = .ok (.aload_n 0, 1) := by decide +kernel
theorem dX12_ladder_1 : decode cX12_ladder 1 = .ok (.getfield 37, 3) := by decide +kernel
theorem dX12_ladder_4 : decode cX12_ladder 4 = .ok (.getfield 142, 3) := by decide +kernel
theorem dX12_ladder_7 : decode cX12_ladder 7 = .ok (.iload_n 1, 1) := by decide +kernel
theorem dX12_ladder_8 : decode cX12_ladder 8 = .ok (.invokevirtual 146, 3) := by decide +kernel
theorem dX12_ladder_11 : decode cX12_ladder 11 = .ok (.ifCond .eq 12, 3) := by decide +kernel
theorem dX12_ladder_23 : decode cX12_ladder 23 = .ok (.new 152, 3) := by decide +kernel
theorem dX12_ladder_26 : decode cX12_ladder 26 = .ok (.dup, 1) := by decide +kernel
theorem dX12_ladder_27 : decode cX12_ladder 27 = .ok (.invokespecial 154, 3) := by decide +kernel
theorem dX12_ladder_30 : decode cX12_ladder 30 = .ok (.athrow, 1) := by decide +kernel
set_option maxRecDepth 20000 in
theorem ggX12_test_X3_sum : GoodIn wsX12_test wsX3_sum := goodIn_r _ [13, 14, 15, 16, 17, 12, 18, 19, 20, 21, 22, 23, 24, 25, 26, 27, 28, 29, 30, 31, 32, 33, 34, 35, 36, 37, 38, 73, 74, 75, 76, 77, 78] (by decide +kernel) (by decide +kernel)
set_option maxRecDepth 20000 in
theorem gX12_test_X3_sum : GoodIn wsX12_test (wsV RX12 206 RX3 yX3_sum wsX3_sum) := goodIn_app (goodIn_of _ (by decide +kernel)) ggX12_test_X3_sum
theorem dX12_test_0 : decode cX12_test 0 = .ok (.aload_n 0, 1) := by decide +kernel
theorem dX12_test_1 : decode cX12_test 1 = .ok (.getfield 37, 3) := by decide +kernel
theorem dX12_test_4 : decode cX12_test 4 = .ok (.getfield 142, 3) := by decide +kernel
theorem dX12_test_7 : decode cX12_test 7 = .ok (.iconst 2, 1) := by decide +kernel
theorem dX12_test_8 : decode cX12_test 8 = .ok (.invokevirtual 206, 3) := by decide +kernel
theorem dX12_test_11 : decode cX12_test 11 = .ok (.istore_n 3, 1) := by decide +kernel
theorem dX12_test_12 : decode cX12_test 12 = .ok (.iload_n 1, 1) := by decide +kernel
theorem dX12_test_13 : decode cX12_test 13 = .ok (.iconst 1, 1) := by decide +kernel
theorem dX12_test_14 : decode cX12_test 14 = .ok (.if_icmp .lt 22, 3) := by decide +kernel
theorem dX12_test_17 : decode cX12_test 17 = .ok (.iload_n 1, 1) := by decide +kernel
theorem dX12_test_18 : decode cX12_test 18 = .ok (.iconst 3, 1) := by decide +kernel
theorem dX12_test_19 : decode cX12_test 19 = .ok (.if_icmp .gt 17, 3) := by decide +kernel
theorem dX12_test_22 : decode cX12_test 22 = .ok (.iload_n 2, 1) := by decide +kernel
theorem dX12_test_23 : decode cX12_test 23 = .ok (.ifCond .lt 13, 3) := by decide +kernel
theorem dX12_test_26 : decode cX12_test 26 = .ok (.iload_n 2, 1) := by decide +kernel
theorem dX12_test_27 : decode cX12_test 27 = .ok (.iconst 1, 1) := by decide +kernel
theorem dX12_test_28 : decode cX12_test 28 = .ok (.if_icmp .gt 8, 3) := by decide +kernel
theorem dX12_test_31 : decode cX12_test 31 = .ok (.iload_n 3, 1) := by decide +kernel
theorem dX12_test_32 : decode cX12_test 32 = .ok (.iload_n 1, 1) := by decide +kernel
theorem dX12_test_33 : decode cX12_test 33 = .ok (.if_icmp .ge 11, 3) := by decide +kernel
theorem dX12_test_36 : decode cX12_test 36 = .ok (.new 152, 3) := by decide +kernel
theorem dX12_test_39 : decode cX12_test 39 = .ok (.dup, 1) := by decide +kernel
theorem dX12_test_40 : decode cX12_test 40 = .ok (.invokespecial 154, 3) := by decide +kernel
theorem dX12_test_43 : decode cX12_test 43 = .ok (.athrow, 1) := by decide +kernel
set_option maxRecDepth 20000 in
theorem ggX12_stands_X10_hasMan : GoodIn wsX12_stands wsX10_hasMan := goodIn_r _ [9, 10, 54, 55, 56, 57, 58, 59, 60, 61, 62] (by decide +kernel) (by decide +kernel)
set_option maxRecDepth 20000 in
theorem gX12_stands_X10_hasMan : GoodIn wsX12_stands (wsV RX12 162 RX10 yX10_hasMan wsX10_hasMan) := goodIn_app (goodIn_of _ (by decide +kernel)) ggX12_stands_X10_hasMan
theorem dX12_stands_0 : decode cX12_stands 0 = .ok (.aload_n 0, 1) := by decide +kernel
theorem dX12_stands_1 : decode cX12_stands 1 = .ok (.getfield 37, 3) := by decide +kernel
theorem dX12_stands_4 : decode cX12_stands 4 = .ok (.iload_n 1, 1) := by decide +kernel
theorem dX12_stands_5 : decode cX12_stands 5 = .ok (.invokevirtual 162, 3) := by decide +kernel
theorem dX12_stands_8 : decode cX12_stands 8 = .ok (.ifCond .ne 11, 3) := by decide +kernel
theorem dX12_stands_11 : decode cX12_stands 11 = .ok (.new 152, 3) := by decide +kernel
theorem dX12_stands_14 : decode cX12_stands 14 = .ok (.dup, 1) := by decide +kernel
theorem dX12_stands_15 : decode cX12_stands 15 = .ok (.invokespecial 154, 3) := by decide +kernel
theorem dX12_stands_18 : decode cX12_stands 18 = .ok (.athrow, 1) := by decide +kernel
set_option maxRecDepth 20000 in
theorem ggL_ladder_X12_ladder : GoodIn wsL_ladder wsX12_ladder := goodIn_ca (goodIn_r _ [6, 7, 8, 9, 10, 11, 12, 13, 14, 15, 16, 17, 18, 19, 20, 21, 22, 23, 24, 25, 26, 27, 28, 29, 30, 31, 32, 33, 34, 35, 36, 37, 38, 39, 40, 41, 42, 43, 44, 45, 46, 47, 48, 49, 50, 51, 52, 53, 54, 55, 56, 57, 58, 59, 60, 61, 62, 63, 64, 65, 66, 67, 68, 69, 70] (by decide +kernel) (by decide +kernel)) (goodIn_sub (fun _ h => List.mem_cons_of_mem _ (List.mem_append_right _ h)) (by decide +kernel))
set_option maxRecDepth 20000 in
theorem gL_ladder_X12_ladder : GoodIn wsL_ladder (wsV RL 7 RX12 yX12_ladder wsX12_ladder) := goodIn_app (goodIn_of _ (by decide +kernel)) ggL_ladder_X12_ladder
theorem dL_ladder_0 : decode cL_ladder 0 = .ok (.aload_n 3, 1) := by decide +kernel
theorem dL_ladder_1 : decode cL_ladder 1 = .ok (.iconst 0, 1) := by decide +kernel
theorem dL_ladder_2 : decode cL_ladder 2 = .ok (.aload_n 0, 1) := by decide +kernel
theorem dL_ladder_3 : decode cL_ladder 3 = .ok (.iload_n 1, 1) := by decide +kernel
theorem dL_ladder_4 : decode cL_ladder 4 = .ok (.iload_n 2, 1) := by decide +kernel
theorem dL_ladder_5 : decode cL_ladder 5 = .ok (.invokevirtual 7, 3) := by decide +kernel
theorem dL_ladder_13 : decode cL_ladder 13 = .ok (.astore 4, 2) := by decide +kernel
theorem dL_ladder_15 : decode cL_ladder 15 = .ok (.iconst 1, 1) := by decide +kernel
theorem dL_ladder_16 : decode cL_ladder 16 = .ok (.ireturn, 1) := by decide +kernel
set_option maxRecDepth 20000 in
theorem ggL_test_X12_test : GoodIn wsL_test wsX12_test := goodIn_ca (goodIn_r _ [6, 7, 8, 9, 10, 11, 12, 13, 14, 15, 16, 17, 18, 19, 20, 21, 22, 23, 24, 25, 26, 27, 28, 29, 30, 31, 32, 33, 34, 35, 36, 37, 38, 39, 40, 41, 42, 43, 44, 45, 46, 5, 47, 48, 49, 50, 51, 52, 53, 54, 55, 56, 57, 58, 59, 60, 61, 62, 63, 64, 65, 66, 67, 68, 69, 70, 71, 72, 73, 74, 75, 76, 77, 78, 79, 80, 81, 82, 83] (by decide +kernel) (by decide +kernel)) (goodIn_sub (fun _ h => List.mem_cons_of_mem _ (List.mem_append_right _ h)) (by decide +kernel))
set_option maxRecDepth 20000 in
theorem gL_test_X12_test : GoodIn wsL_test (wsV RL 15 RX12 yX12_test wsX12_test) := goodIn_app (goodIn_of _ (by decide +kernel)) ggL_test_X12_test
theorem dL_test_0 : decode cL_test 0 = .ok (.aload_n 3, 1) := by decide +kernel
theorem dL_test_1 : decode cL_test 1 = .ok (.iconst 0, 1) := by decide +kernel
theorem dL_test_2 : decode cL_test 2 = .ok (.aload_n 0, 1) := by decide +kernel
theorem dL_test_3 : decode cL_test 3 = .ok (.iload_n 1, 1) := by decide +kernel
theorem dL_test_4 : decode cL_test 4 = .ok (.iload_n 2, 1) := by decide +kernel
theorem dL_test_5 : decode cL_test 5 = .ok (.invokevirtual 15, 3) := by decide +kernel
theorem dL_test_13 : decode cL_test 13 = .ok (.astore 4, 2) := by decide +kernel
theorem dL_test_15 : decode cL_test 15 = .ok (.iconst 1, 1) := by decide +kernel
theorem dL_test_16 : decode cL_test 16 = .ok (.ireturn, 1) := by decide +kernel
set_option maxRecDepth 20000 in
theorem ggL_stands_X12_stands : GoodIn wsL_stands wsX12_stands := goodIn_ca (goodIn_r _ [6, 7, 8, 9, 10, 11, 12, 13, 14, 15, 16, 17, 18, 19, 20, 21, 22, 23, 24, 25, 26, 27, 28, 29, 30, 31, 32, 33, 34, 35, 36, 37, 38, 39, 40, 41, 42, 43, 44, 45, 46, 47, 48, 49, 50, 51, 52, 53, 54, 55, 56, 57, 58, 59, 60, 61, 62, 63, 64, 65, 66, 67, 68, 69, 70] (by decide +kernel) (by decide +kernel)) (goodIn_sub (fun _ h => List.mem_cons_of_mem _ (List.mem_append_right _ h)) (by decide +kernel))
set_option maxRecDepth 20000 in
theorem gL_stands_X12_stands : GoodIn wsL_stands (wsV RL 18 RX12 yX12_stands wsX12_stands) := goodIn_app (goodIn_of _ (by decide +kernel)) ggL_stands_X12_stands
theorem dL_stands_0 : decode cL_stands 0 = .ok (.aload_n 2, 1) := by decide +kernel
theorem dL_stands_1 : decode cL_stands 1 = .ok (.iconst 0, 1) := by decide +kernel
theorem dL_stands_2 : decode cL_stands 2 = .ok (.aload_n 0, 1) := by decide +kernel
theorem dL_stands_3 : decode cL_stands 3 = .ok (.iload_n 1, 1) := by decide +kernel
theorem dL_stands_4 : decode cL_stands 4 = .ok (.invokevirtual 18, 3) := by decide +kernel
theorem dL_stands_12 : decode cL_stands 12 = .ok (.astore_n 3, 1) := by decide +kernel
theorem dL_stands_13 : decode cL_stands 13 = .ok (.iconst 1, 1) := by decide +kernel
theorem dL_stands_14 : decode cL_stands 14 = .ok (.ireturn, 1) := by decide +kernel
theorem inX12_ladder_X12 : ∀ w ∈ wsX120, w ∈ wsX12_ladder := by decide +kernel
theorem inX12_ladder_X10 : ∀ w ∈ wsX100, w ∈ wsX12_ladder := by decide +kernel
theorem inX12_test_X12 : ∀ w ∈ wsX120, w ∈ wsX12_test := by decide +kernel
theorem inX12_test_X10 : ∀ w ∈ wsX100, w ∈ wsX12_test := by decide +kernel
theorem inX12_stands_X12 : ∀ w ∈ wsX120, w ∈ wsX12_stands := by decide +kernel
set_option maxHeartbeats 4000000 in
set_option maxRecDepth 100000 in
theorem cM_ladder (l : Launch) (hlt : l.stackTraces = false) (D : va_G) (k : Nat → ClassId) (B0 : Nat) (ad : Nat → Nat) (al : Nat) (rm0 : Nat) (e0 : Nat) (d0 : Nat) (v0 : Nat) (t0 : Nat) (n0 : Nat) (s0 : Nat) (z0 : Nat) (g0 : Nat) (h0 : Nat) (o0 : Nat) (j0 : Nat) (j1 : Nat) (j2 : Nat) (j3 : Nat) (t1 : Nat) (t2 : Nat) (t3 : Nat) (t4 : Nat) (t5 : Nat) (t6 : Nat) (t7 : Nat) (t8 : Nat) (t11 : Nat) (p0 : Int32) (p1 : Int32) : g_Ct l yX12_ladder wsX12_ladder ({ frames := 6, cells := 1, slots := 6, locals := 81 }) D k (gY B0 ad al [(rm0, .inr (10, [.ref e0, .ref d0, .ref v0, .ref t0, .ref n0, .ref s0, .ref z0, .ref g0, .ref h0, .ref o0, .ref j0, .ref j1, .ref j2, .ref j3, .int 0, .int (-1), .int (-1), .int (-1)])), (t0, .inr (8, [.int 0, .ref t1, .ref t2, .ref t8, .ref t11, .int 1, .int 0, .int 0, .int 0])), (t2, .inr (1, [.int 0, .ref t3, .ref t4, .ref t5, .ref t6, .ref t7]))]) [.ref rm0, .int p0, .int p1] [(rm0, .inr (10, [.ref e0, .ref d0, .ref v0, .ref t0, .ref n0, .ref s0, .ref z0, .ref g0, .ref h0, .ref o0, .ref j0, .ref j1, .ref j2, .ref j3, .int 0, .int (-1), .int (-1), .int (-1)])), (t0, .inr (8, [.int 0, .ref t1, .ref t2, .ref t8, .ref t11, .int 1, .int 0, .int 0, .int 0])), (t2, .inr (1, [.int 0, .ref t3, .ref t4, .ref t5, .ref t6, .ref t7]))] 1 6 := by
  intro sz
  refine vx_ofW (cc := cX12_ladder) (maxL := 3) (ret := (some .int)) (by decide) rfl ?_
  intro p e s m args below meth c s₁ B hml hno hv
  obtain ⟨rfl, hsz, hP, hK, hD0, hE⟩ := hv
  have hx := B.exec
  have hb := B.bytes
  have hr := B.returns
  have hts := atoms_spec (ws := wsX12_ladder) B.pre
  have hown : s.vm.findClass RX12 = some m.cls := findClass_of_methodNamed B.named
  have hlocks := B.notSynchronized
  subst hsz
  have hD := hD0.self (sz := s.heap.size)
  generalize hAe : va_A [(rm0, .inr (10, [.ref e0, .ref d0, .ref v0, .ref t0, .ref n0, .ref s0, .ref z0, .ref g0, .ref h0, .ref o0, .ref j0, .ref j1, .ref j2, .ref j3, .int 0, .int (-1), .int (-1), .int (-1)])), (t0, .inr (8, [.int 0, .ref t1, .ref t2, .ref t8, .ref t11, .int 1, .int 0, .int 0, .int 0])), (t2, .inr (1, [.int 0, .ref t3, .ref t4, .ref t5, .ref t6, .ref t7]))] s.heap.size = A at hD ⊢
  have hA : ∀ q : Nat, s.heap.size ≤ q → A q := fun q h => by rw [← hAe]; exact Or.inr h
  have hS : va_S A s.heap s.heap [] := va_S.rf
  have hP : va_P D vwCl [(rm0, .inr (10, [.ref e0, .ref d0, .ref v0, .ref t0, .ref n0, .ref s0, .ref z0, .ref g0, .ref h0, .ref o0, .ref j0, .ref j1, .ref j2, .ref j3, .int 0, .int (-1), .int (-1), .int (-1)])), (t0, .inr (8, [.int 0, .ref t1, .ref t2, .ref t8, .ref t11, .int 1, .int 0, .int 0, .int 0])), (t2, .inr (1, [.int 0, .ref t3, .ref t4, .ref t5, .ref t6, .ref t7]))] s.heap := hP
  have hl := lv_entry ([.ref rm0, .int p0, .int p1]) (n := 3) (Nat.le_of_ble_eq_true rfl)
  rw [lg_entry_eq]
  generalize (lg_sl ([.ref rm0, .int p0, .int p1]) ++ List.replicate (3 - (lg_sl ([.ref rm0, .int p0, .int p1])).length) Slot.unset).toArray = ls at hl ⊢
  have hl : lv_has ls 3 [(0, .ref rm0), (1, .int p0), (2, .int p1)] := hl
  have hY := hE
  have hE := hE.1
  have hAB := gX_AB hE hAe
  have hEn := hE.1.2.1.1.narrow hAB
  refine lv_aload_n hx hb dX12_ladder_0 rfl (lv_at hl 0 rfl) ?_
  refine va_get (D := D) (ci := 10) (v := .ref t0) (C := RX12) (T := TX12) (N := 18) hx hb hts inX12_ladder_X12 hown hK hP 0 rfl rfl 3 (by decide) (hts (.fieldLink RX12 37 "RungMoney" "town" "LRungMoney$Town;") (by decide +kernel)) (fun _ h9 => h9) rfl dX12_ladder_1 ?_
  refine va_get (D := D) (ci := 8) (v := .ref t2) (C := RX10) (T := TX10) (N := 9) hx hb hts inX12_ladder_X10 hown hK hP 1 rfl rfl 2 (by decide) (hts (.fieldLink RX12 142 "RungMoney$Town" "ladders" "LRungMoney$Ladders;") (by decide +kernel)) (fun _ h9 => h9) rfl dX12_ladder_4 ?_
  refine lv_iload_n hx hb dX12_ladder_7 rfl (lv_at hl 1 rfl) ?_
  refine g_iV (As := [.int p0]) (rest := []) (wr := [(rm0, .inr (10, [.ref e0, .ref d0, .ref v0, .ref t0, .ref n0, .ref s0, .ref z0, .ref g0, .ref h0, .ref o0, .ref j0, .ref j1, .ref j2, .ref j3, .int 0, .int (-1), .int (-1), .int (-1)])), (t0, .inr (8, [.int 0, .ref t1, .ref t2, .ref t8, .ref t11, .int 1, .int 0, .int 0, .int 0]))]) ⟨hx, hb, hml, hown, hts⟩ (cL_has l D k t2 t3 t4 t5 t6 t7 p0) (cwV 1 hts gX12_ladder_X3_has rfl rfl rfl (by decide +kernel) ⟨Nat.le_of_ble_eq_true rfl, Nat.le_of_ble_eq_true rfl⟩) g_E0_ok (fun _ _ _ => trivial) hK hP hD hS hA 2 1 rfl rfl rfl [2] [0, 1] rfl rfl (by decide) rfl hl.1 rfl (Nat.le_of_ble_eq_true rfl) dX12_ladder_8 ⟨Nat.le_of_ble_eq_true rfl, Nat.le_of_ble_eq_true rfl⟩ (fun u1 H locs hP hD hS => ?_)
  have hP : va_P D vwCl [(rm0, .inr (10, [.ref e0, .ref d0, .ref v0, .ref t0, .ref n0, .ref s0, .ref z0, .ref g0, .ref h0, .ref o0, .ref j0, .ref j1, .ref j2, .ref j3, .int 0, .int (-1), .int (-1), .int (-1)])), (t0, .inr (8, [.int 0, .ref t1, .ref t2, .ref t8, .ref t11, .int 1, .int 0, .int 0, .int 0])), (t2, .inr (1, [.int 0, .ref t3, .ref t4, .ref t5, .ref t6, .ref t7]))] H := hP
  have hD : va_D A [(rm0, .inr (10, [.ref e0, .ref d0, .ref v0, .ref t0, .ref n0, .ref s0, .ref z0, .ref g0, .ref h0, .ref o0, .ref j0, .ref j1, .ref j2, .ref j3, .int 0, .int (-1), .int (-1), .int (-1)])), (t0, .inr (8, [.int 0, .ref t1, .ref t2, .ref t8, .ref t11, .int 1, .int 0, .int 0, .int 0])), (t2, .inr (1, [.int 0, .ref t3, .ref t4, .ref t5, .ref t6, .ref t7]))] := hD
  refine lv_if_eq (tgt := 23) hx hb dX12_ladder_11 (by decide) (fun _ => ?_) (fun h9 => absurd (by decide) h9)
  have hP := hP.sub (ws' := [(rm0, .inr (10, [.ref e0, .ref d0, .ref v0, .ref t0, .ref n0, .ref s0, .ref z0, .ref g0, .ref h0, .ref o0, .ref j0, .ref j1, .ref j2, .ref j3, .int 0, .int (-1), .int (-1), .int (-1)])), (t0, .inr (8, [.int 0, .ref t1, .ref t2, .ref t8, .ref t11, .int 1, .int 0, .int 0, .int 0])), (t2, .inr (1, [.int 0, .ref t3, .ref t4, .ref t5, .ref t6, .ref t7]))]) [0, 1, 2] rfl
  have hD := hD.sub (ws' := [(rm0, .inr (10, [.ref e0, .ref d0, .ref v0, .ref t0, .ref n0, .ref s0, .ref z0, .ref g0, .ref h0, .ref o0, .ref j0, .ref j1, .ref j2, .ref j3, .int 0, .int (-1), .int (-1), .int (-1)])), (t0, .inr (8, [.int 0, .ref t1, .ref t2, .ref t8, .ref t11, .int 1, .int 0, .int 0, .int 0])), (t2, .inr (1, [.int 0, .ref t3, .ref t4, .ref t5, .ref t6, .ref t7]))]) [0, 1, 2] (by decide) rfl
  exact vx_throw0 (A := A) (names := ["java/lang/RuntimeException", "java/lang/Exception"]) hx hb hlt hown (by decide) (by decide) (hts (.classLink RX12 152 "java/util/NoSuchElementException") (by decide +kernel)) (hts (.initialized "java/util/NoSuchElementException") (by decide +kernel)) (vx_hat (B := [.castable "java/util/NoSuchElementException" "java/util/NoSuchElementException", .declares ⟨"java/lang/RuntimeException", "<init>", "()V"⟩, .declares ⟨"java/lang/Exception", "<init>", "()V"⟩, .declares ⟨"java/lang/Throwable", "<init>", "()V"⟩]) (fun w hw => hts w (List.mem_cons_of_mem _ (List.mem_append_right _ hw))) (by decide +kernel) (vx_c (va_Nw.use rfl hE.1.2.2.1.2.2.2) (vx_c (va_Nw.use rfl hY.2.1) (vx_c (va_Nw.use rfl hY.2.2.1) (vx_c (va_Nw.use rfl hY.2.2.2) vx_n))))) (by decide +kernel) (hE.1.2.1.2.2.2.2.1.narrow hAB) (hE.1.2.1.2.2.2.2.2.narrow hAB) hS (by rw [hml]; exact hl.1) dX12_ladder_23 dX12_ladder_26 dX12_ladder_27 dX12_ladder_30 (fun x hx9 => (hno x hx9).elim) (Nat.le_of_ble_eq_true rfl) (Nat.le_of_ble_eq_true rfl) (Nat.le_of_ble_eq_true rfl) (Nat.le_of_ble_eq_true rfl) hlocks (g_thr hK hP hD hS) hS.2.2 (Nat.le_of_ble_eq_true rfl) (Nat.le_of_ble_eq_true rfl)
set_option maxHeartbeats 4000000 in
set_option maxRecDepth 100000 in
theorem cM_test (l : Launch) (hlt : l.stackTraces = false) (D : va_G) (k : Nat → ClassId) (B0 : Nat) (ad : Nat → Nat) (al : Nat) (rm0 : Nat) (e0 : Nat) (d0 : Nat) (v0 : Nat) (t0 : Nat) (n0 : Nat) (s0 : Nat) (z0 : Nat) (g0 : Nat) (h0 : Nat) (o0 : Nat) (j0 : Nat) (j1 : Nat) (j2 : Nat) (j3 : Nat) (t1 : Nat) (t2 : Nat) (t3 : Nat) (t4 : Nat) (t5 : Nat) (t6 : Nat) (t7 : Nat) (t8 : Nat) (t11 : Nat) (p0 : Int32) (p1 : Int32) : g_Ct l yX12_test wsX12_test ({ frames := 6, cells := 1, slots := 6, locals := 81 }) D k (gY B0 ad al [(rm0, .inr (10, [.ref e0, .ref d0, .ref v0, .ref t0, .ref n0, .ref s0, .ref z0, .ref g0, .ref h0, .ref o0, .ref j0, .ref j1, .ref j2, .ref j3, .int 0, .int (-1), .int (-1), .int (-1)])), (t0, .inr (8, [.int 0, .ref t1, .ref t2, .ref t8, .ref t11, .int 1, .int 0, .int 0, .int 0])), (t2, .inr (1, [.int 0, .ref t3, .ref t4, .ref t5, .ref t6, .ref t7]))]) [.ref rm0, .int p0, .int p1] [(rm0, .inr (10, [.ref e0, .ref d0, .ref v0, .ref t0, .ref n0, .ref s0, .ref z0, .ref g0, .ref h0, .ref o0, .ref j0, .ref j1, .ref j2, .ref j3, .int 0, .int (-1), .int (-1), .int (-1)])), (t0, .inr (8, [.int 0, .ref t1, .ref t2, .ref t8, .ref t11, .int 1, .int 0, .int 0, .int 0])), (t2, .inr (1, [.int 0, .ref t3, .ref t4, .ref t5, .ref t6, .ref t7]))] 1 6 := by
  intro sz
  refine vx_ofW (cc := cX12_test) (maxL := 8) (ret := (some .int)) (by decide) rfl ?_
  intro p e s m args below meth c s₁ B hml hno hv
  obtain ⟨rfl, hsz, hP, hK, hD0, hE⟩ := hv
  have hx := B.exec
  have hb := B.bytes
  have hr := B.returns
  have hts := atoms_spec (ws := wsX12_test) B.pre
  have hown : s.vm.findClass RX12 = some m.cls := findClass_of_methodNamed B.named
  have hlocks := B.notSynchronized
  subst hsz
  have hD := hD0.self (sz := s.heap.size)
  generalize hAe : va_A [(rm0, .inr (10, [.ref e0, .ref d0, .ref v0, .ref t0, .ref n0, .ref s0, .ref z0, .ref g0, .ref h0, .ref o0, .ref j0, .ref j1, .ref j2, .ref j3, .int 0, .int (-1), .int (-1), .int (-1)])), (t0, .inr (8, [.int 0, .ref t1, .ref t2, .ref t8, .ref t11, .int 1, .int 0, .int 0, .int 0])), (t2, .inr (1, [.int 0, .ref t3, .ref t4, .ref t5, .ref t6, .ref t7]))] s.heap.size = A at hD ⊢
  have hA : ∀ q : Nat, s.heap.size ≤ q → A q := fun q h => by rw [← hAe]; exact Or.inr h
  have hS : va_S A s.heap s.heap [] := va_S.rf
  have hP : va_P D vwCl [(rm0, .inr (10, [.ref e0, .ref d0, .ref v0, .ref t0, .ref n0, .ref s0, .ref z0, .ref g0, .ref h0, .ref o0, .ref j0, .ref j1, .ref j2, .ref j3, .int 0, .int (-1), .int (-1), .int (-1)])), (t0, .inr (8, [.int 0, .ref t1, .ref t2, .ref t8, .ref t11, .int 1, .int 0, .int 0, .int 0])), (t2, .inr (1, [.int 0, .ref t3, .ref t4, .ref t5, .ref t6, .ref t7]))] s.heap := hP
  have hl := lv_entry ([.ref rm0, .int p0, .int p1]) (n := 8) (Nat.le_of_ble_eq_true rfl)
  rw [lg_entry_eq]
  generalize (lg_sl ([.ref rm0, .int p0, .int p1]) ++ List.replicate (8 - (lg_sl ([.ref rm0, .int p0, .int p1])).length) Slot.unset).toArray = ls at hl ⊢
  have hl : lv_has ls 8 [(0, .ref rm0), (1, .int p0), (2, .int p1)] := hl
  have hY := hE
  have hE := hE.1
  have hAB := gX_AB hE hAe
  have hEn := hE.1.2.1.1.narrow hAB
  refine lv_aload_n hx hb dX12_test_0 rfl (lv_at hl 0 rfl) ?_
  refine va_get (D := D) (ci := 10) (v := .ref t0) (C := RX12) (T := TX12) (N := 18) hx hb hts inX12_test_X12 hown hK hP 0 rfl rfl 3 (by decide) (hts (.fieldLink RX12 37 "RungMoney" "town" "LRungMoney$Town;") (by decide +kernel)) (fun _ h9 => h9) rfl dX12_test_1 ?_
  refine va_get (D := D) (ci := 8) (v := .ref t2) (C := RX10) (T := TX10) (N := 9) hx hb hts inX12_test_X10 hown hK hP 1 rfl rfl 2 (by decide) (hts (.fieldLink RX12 142 "RungMoney$Town" "ladders" "LRungMoney$Ladders;") (by decide +kernel)) (fun _ h9 => h9) rfl dX12_test_4 ?_
  refine lv_iconst (v := 2) hx hb dX12_test_7 (by decide) ?_
  refine g_iV (As := [.int 2]) (rest := []) (wr := [(rm0, .inr (10, [.ref e0, .ref d0, .ref v0, .ref t0, .ref n0, .ref s0, .ref z0, .ref g0, .ref h0, .ref o0, .ref j0, .ref j1, .ref j2, .ref j3, .int 0, .int (-1), .int (-1), .int (-1)])), (t0, .inr (8, [.int 0, .ref t1, .ref t2, .ref t8, .ref t11, .int 1, .int 0, .int 0, .int 0]))]) ⟨hx, hb, hml, hown, hts⟩ (cL_sum l D k t2 t3 t4 t5 t6 t7 2) (cwV 1 hts gX12_test_X3_sum rfl rfl rfl (by decide +kernel) ⟨Nat.le_of_ble_eq_true rfl, Nat.le_of_ble_eq_true rfl⟩) g_E0_ok (fun _ _ _ => trivial) hK hP hD hS hA 2 1 rfl rfl rfl [2] [0, 1] rfl rfl (by decide) rfl hl.1 rfl (Nat.le_of_ble_eq_true rfl) dX12_test_8 ⟨Nat.le_of_ble_eq_true rfl, Nat.le_of_ble_eq_true rfl⟩ (fun u1 H locs hP hD hS => ?_)
  have hP : va_P D vwCl [(rm0, .inr (10, [.ref e0, .ref d0, .ref v0, .ref t0, .ref n0, .ref s0, .ref z0, .ref g0, .ref h0, .ref o0, .ref j0, .ref j1, .ref j2, .ref j3, .int 0, .int (-1), .int (-1), .int (-1)])), (t0, .inr (8, [.int 0, .ref t1, .ref t2, .ref t8, .ref t11, .int 1, .int 0, .int 0, .int 0])), (t2, .inr (1, [.int 0, .ref t3, .ref t4, .ref t5, .ref t6, .ref t7]))] H := hP
  have hD : va_D A [(rm0, .inr (10, [.ref e0, .ref d0, .ref v0, .ref t0, .ref n0, .ref s0, .ref z0, .ref g0, .ref h0, .ref o0, .ref j0, .ref j1, .ref j2, .ref j3, .int 0, .int (-1), .int (-1), .int (-1)])), (t0, .inr (8, [.int 0, .ref t1, .ref t2, .ref t8, .ref t11, .int 1, .int 0, .int 0, .int 0])), (t2, .inr (1, [.int 0, .ref t3, .ref t4, .ref t5, .ref t6, .ref t7]))] := hD
  refine lv_istore_n (lv' := [(3, .int 0), (0, .ref rm0), (1, .int p0), (2, .int p1)]) hx hb dX12_test_11 rfl hl (by decide) rfl (fun ls hl => ?_)
  refine lv_iload_n hx hb dX12_test_12 rfl (lv_at hl 2 rfl) ?_
  refine lv_iconst (v := 1) hx hb dX12_test_13 (by decide) ?_
  refine lv_icmp_lt (tgt := 36) hx hb dX12_test_14 (by decide) (fun c2 => ?_) (fun c2 => ?_)
  · have hP := hP.sub (ws' := [(rm0, .inr (10, [.ref e0, .ref d0, .ref v0, .ref t0, .ref n0, .ref s0, .ref z0, .ref g0, .ref h0, .ref o0, .ref j0, .ref j1, .ref j2, .ref j3, .int 0, .int (-1), .int (-1), .int (-1)])), (t0, .inr (8, [.int 0, .ref t1, .ref t2, .ref t8, .ref t11, .int 1, .int 0, .int 0, .int 0])), (t2, .inr (1, [.int 0, .ref t3, .ref t4, .ref t5, .ref t6, .ref t7]))]) [0, 1, 2] rfl
    have hD := hD.sub (ws' := [(rm0, .inr (10, [.ref e0, .ref d0, .ref v0, .ref t0, .ref n0, .ref s0, .ref z0, .ref g0, .ref h0, .ref o0, .ref j0, .ref j1, .ref j2, .ref j3, .int 0, .int (-1), .int (-1), .int (-1)])), (t0, .inr (8, [.int 0, .ref t1, .ref t2, .ref t8, .ref t11, .int 1, .int 0, .int 0, .int 0])), (t2, .inr (1, [.int 0, .ref t3, .ref t4, .ref t5, .ref t6, .ref t7]))]) [0, 1, 2] (by decide) rfl
    exact vx_throw0 (A := A) (names := ["java/lang/RuntimeException", "java/lang/Exception"]) hx hb hlt hown (by decide) (by decide) (hts (.classLink RX12 152 "java/util/NoSuchElementException") (by decide +kernel)) (hts (.initialized "java/util/NoSuchElementException") (by decide +kernel)) (vx_hat (B := [.castable "java/util/NoSuchElementException" "java/util/NoSuchElementException", .declares ⟨"java/lang/RuntimeException", "<init>", "()V"⟩, .declares ⟨"java/lang/Exception", "<init>", "()V"⟩, .declares ⟨"java/lang/Throwable", "<init>", "()V"⟩]) (fun w hw => hts w (List.mem_cons_of_mem _ (List.mem_append_right _ hw))) (by decide +kernel) (vx_c (va_Nw.use rfl hE.1.2.2.1.2.2.2) (vx_c (va_Nw.use rfl hY.2.1) (vx_c (va_Nw.use rfl hY.2.2.1) (vx_c (va_Nw.use rfl hY.2.2.2) vx_n))))) (by decide +kernel) (hE.1.2.1.2.2.2.2.1.narrow hAB) (hE.1.2.1.2.2.2.2.2.narrow hAB) hS (by rw [hml]; exact hl.1) dX12_test_36 dX12_test_39 dX12_test_40 dX12_test_43 (fun x hx9 => (hno x hx9).elim) (Nat.le_of_ble_eq_true rfl) (Nat.le_of_ble_eq_true rfl) (Nat.le_of_ble_eq_true rfl) (Nat.le_of_ble_eq_true rfl) hlocks (g_thr hK hP hD hS) hS.2.2 (Nat.le_of_ble_eq_true rfl) (Nat.le_of_ble_eq_true rfl)
  · refine lv_iload_n hx hb dX12_test_17 rfl (lv_at hl 2 rfl) ?_
    refine lv_iconst (v := 3) hx hb dX12_test_18 (by decide) ?_
    refine lv_icmp_gt (tgt := 36) hx hb dX12_test_19 (by decide) (fun c3 => ?_) (fun c3 => ?_)
    · have hP := hP.sub (ws' := [(rm0, .inr (10, [.ref e0, .ref d0, .ref v0, .ref t0, .ref n0, .ref s0, .ref z0, .ref g0, .ref h0, .ref o0, .ref j0, .ref j1, .ref j2, .ref j3, .int 0, .int (-1), .int (-1), .int (-1)])), (t0, .inr (8, [.int 0, .ref t1, .ref t2, .ref t8, .ref t11, .int 1, .int 0, .int 0, .int 0])), (t2, .inr (1, [.int 0, .ref t3, .ref t4, .ref t5, .ref t6, .ref t7]))]) [0, 1, 2] rfl
      have hD := hD.sub (ws' := [(rm0, .inr (10, [.ref e0, .ref d0, .ref v0, .ref t0, .ref n0, .ref s0, .ref z0, .ref g0, .ref h0, .ref o0, .ref j0, .ref j1, .ref j2, .ref j3, .int 0, .int (-1), .int (-1), .int (-1)])), (t0, .inr (8, [.int 0, .ref t1, .ref t2, .ref t8, .ref t11, .int 1, .int 0, .int 0, .int 0])), (t2, .inr (1, [.int 0, .ref t3, .ref t4, .ref t5, .ref t6, .ref t7]))]) [0, 1, 2] (by decide) rfl
      exact vx_throw0 (A := A) (names := ["java/lang/RuntimeException", "java/lang/Exception"]) hx hb hlt hown (by decide) (by decide) (hts (.classLink RX12 152 "java/util/NoSuchElementException") (by decide +kernel)) (hts (.initialized "java/util/NoSuchElementException") (by decide +kernel)) (vx_hat (B := [.castable "java/util/NoSuchElementException" "java/util/NoSuchElementException", .declares ⟨"java/lang/RuntimeException", "<init>", "()V"⟩, .declares ⟨"java/lang/Exception", "<init>", "()V"⟩, .declares ⟨"java/lang/Throwable", "<init>", "()V"⟩]) (fun w hw => hts w (List.mem_cons_of_mem _ (List.mem_append_right _ hw))) (by decide +kernel) (vx_c (va_Nw.use rfl hE.1.2.2.1.2.2.2) (vx_c (va_Nw.use rfl hY.2.1) (vx_c (va_Nw.use rfl hY.2.2.1) (vx_c (va_Nw.use rfl hY.2.2.2) vx_n))))) (by decide +kernel) (hE.1.2.1.2.2.2.2.1.narrow hAB) (hE.1.2.1.2.2.2.2.2.narrow hAB) hS (by rw [hml]; exact hl.1) dX12_test_36 dX12_test_39 dX12_test_40 dX12_test_43 (fun x hx9 => (hno x hx9).elim) (Nat.le_of_ble_eq_true rfl) (Nat.le_of_ble_eq_true rfl) (Nat.le_of_ble_eq_true rfl) (Nat.le_of_ble_eq_true rfl) hlocks (g_thr hK hP hD hS) hS.2.2 (Nat.le_of_ble_eq_true rfl) (Nat.le_of_ble_eq_true rfl)
    · refine lv_iload_n hx hb dX12_test_22 rfl (lv_at hl 3 rfl) ?_
      refine lv_if_lt (tgt := 36) hx hb dX12_test_23 (by decide) (fun c4 => ?_) (fun c4 => ?_)
      · have hP := hP.sub (ws' := [(rm0, .inr (10, [.ref e0, .ref d0, .ref v0, .ref t0, .ref n0, .ref s0, .ref z0, .ref g0, .ref h0, .ref o0, .ref j0, .ref j1, .ref j2, .ref j3, .int 0, .int (-1), .int (-1), .int (-1)])), (t0, .inr (8, [.int 0, .ref t1, .ref t2, .ref t8, .ref t11, .int 1, .int 0, .int 0, .int 0])), (t2, .inr (1, [.int 0, .ref t3, .ref t4, .ref t5, .ref t6, .ref t7]))]) [0, 1, 2] rfl
        have hD := hD.sub (ws' := [(rm0, .inr (10, [.ref e0, .ref d0, .ref v0, .ref t0, .ref n0, .ref s0, .ref z0, .ref g0, .ref h0, .ref o0, .ref j0, .ref j1, .ref j2, .ref j3, .int 0, .int (-1), .int (-1), .int (-1)])), (t0, .inr (8, [.int 0, .ref t1, .ref t2, .ref t8, .ref t11, .int 1, .int 0, .int 0, .int 0])), (t2, .inr (1, [.int 0, .ref t3, .ref t4, .ref t5, .ref t6, .ref t7]))]) [0, 1, 2] (by decide) rfl
        exact vx_throw0 (A := A) (names := ["java/lang/RuntimeException", "java/lang/Exception"]) hx hb hlt hown (by decide) (by decide) (hts (.classLink RX12 152 "java/util/NoSuchElementException") (by decide +kernel)) (hts (.initialized "java/util/NoSuchElementException") (by decide +kernel)) (vx_hat (B := [.castable "java/util/NoSuchElementException" "java/util/NoSuchElementException", .declares ⟨"java/lang/RuntimeException", "<init>", "()V"⟩, .declares ⟨"java/lang/Exception", "<init>", "()V"⟩, .declares ⟨"java/lang/Throwable", "<init>", "()V"⟩]) (fun w hw => hts w (List.mem_cons_of_mem _ (List.mem_append_right _ hw))) (by decide +kernel) (vx_c (va_Nw.use rfl hE.1.2.2.1.2.2.2) (vx_c (va_Nw.use rfl hY.2.1) (vx_c (va_Nw.use rfl hY.2.2.1) (vx_c (va_Nw.use rfl hY.2.2.2) vx_n))))) (by decide +kernel) (hE.1.2.1.2.2.2.2.1.narrow hAB) (hE.1.2.1.2.2.2.2.2.narrow hAB) hS (by rw [hml]; exact hl.1) dX12_test_36 dX12_test_39 dX12_test_40 dX12_test_43 (fun x hx9 => (hno x hx9).elim) (Nat.le_of_ble_eq_true rfl) (Nat.le_of_ble_eq_true rfl) (Nat.le_of_ble_eq_true rfl) (Nat.le_of_ble_eq_true rfl) hlocks (g_thr hK hP hD hS) hS.2.2 (Nat.le_of_ble_eq_true rfl) (Nat.le_of_ble_eq_true rfl)
      · refine lv_iload_n hx hb dX12_test_26 rfl (lv_at hl 3 rfl) ?_
        refine lv_iconst (v := 1) hx hb dX12_test_27 (by decide) ?_
        refine lv_icmp_gt (tgt := 36) hx hb dX12_test_28 (by decide) (fun c5 => ?_) (fun c5 => ?_)
        · have hP := hP.sub (ws' := [(rm0, .inr (10, [.ref e0, .ref d0, .ref v0, .ref t0, .ref n0, .ref s0, .ref z0, .ref g0, .ref h0, .ref o0, .ref j0, .ref j1, .ref j2, .ref j3, .int 0, .int (-1), .int (-1), .int (-1)])), (t0, .inr (8, [.int 0, .ref t1, .ref t2, .ref t8, .ref t11, .int 1, .int 0, .int 0, .int 0])), (t2, .inr (1, [.int 0, .ref t3, .ref t4, .ref t5, .ref t6, .ref t7]))]) [0, 1, 2] rfl
          have hD := hD.sub (ws' := [(rm0, .inr (10, [.ref e0, .ref d0, .ref v0, .ref t0, .ref n0, .ref s0, .ref z0, .ref g0, .ref h0, .ref o0, .ref j0, .ref j1, .ref j2, .ref j3, .int 0, .int (-1), .int (-1), .int (-1)])), (t0, .inr (8, [.int 0, .ref t1, .ref t2, .ref t8, .ref t11, .int 1, .int 0, .int 0, .int 0])), (t2, .inr (1, [.int 0, .ref t3, .ref t4, .ref t5, .ref t6, .ref t7]))]) [0, 1, 2] (by decide) rfl
          exact vx_throw0 (A := A) (names := ["java/lang/RuntimeException", "java/lang/Exception"]) hx hb hlt hown (by decide) (by decide) (hts (.classLink RX12 152 "java/util/NoSuchElementException") (by decide +kernel)) (hts (.initialized "java/util/NoSuchElementException") (by decide +kernel)) (vx_hat (B := [.castable "java/util/NoSuchElementException" "java/util/NoSuchElementException", .declares ⟨"java/lang/RuntimeException", "<init>", "()V"⟩, .declares ⟨"java/lang/Exception", "<init>", "()V"⟩, .declares ⟨"java/lang/Throwable", "<init>", "()V"⟩]) (fun w hw => hts w (List.mem_cons_of_mem _ (List.mem_append_right _ hw))) (by decide +kernel) (vx_c (va_Nw.use rfl hE.1.2.2.1.2.2.2) (vx_c (va_Nw.use rfl hY.2.1) (vx_c (va_Nw.use rfl hY.2.2.1) (vx_c (va_Nw.use rfl hY.2.2.2) vx_n))))) (by decide +kernel) (hE.1.2.1.2.2.2.2.1.narrow hAB) (hE.1.2.1.2.2.2.2.2.narrow hAB) hS (by rw [hml]; exact hl.1) dX12_test_36 dX12_test_39 dX12_test_40 dX12_test_43 (fun x hx9 => (hno x hx9).elim) (Nat.le_of_ble_eq_true rfl) (Nat.le_of_ble_eq_true rfl) (Nat.le_of_ble_eq_true rfl) (Nat.le_of_ble_eq_true rfl) hlocks (g_thr hK hP hD hS) hS.2.2 (Nat.le_of_ble_eq_true rfl) (Nat.le_of_ble_eq_true rfl)
        · refine lv_iload_n hx hb dX12_test_31 rfl (lv_at hl 0 rfl) ?_
          refine lv_iload_n hx hb dX12_test_32 rfl (lv_at hl 2 rfl) ?_
          refine lv_icmp_ge (tgt := 44) hx hb dX12_test_33 (by decide) (fun c6 => False.elim (by simp only [fa_lt, fa_le, fa_eq, t_0, t_1, t_3] at c2 c3 c6; omega)) (fun _ => ?_)
          have hP := hP.sub (ws' := [(rm0, .inr (10, [.ref e0, .ref d0, .ref v0, .ref t0, .ref n0, .ref s0, .ref z0, .ref g0, .ref h0, .ref o0, .ref j0, .ref j1, .ref j2, .ref j3, .int 0, .int (-1), .int (-1), .int (-1)])), (t0, .inr (8, [.int 0, .ref t1, .ref t2, .ref t8, .ref t11, .int 1, .int 0, .int 0, .int 0])), (t2, .inr (1, [.int 0, .ref t3, .ref t4, .ref t5, .ref t6, .ref t7]))]) [0, 1, 2] rfl
          have hD := hD.sub (ws' := [(rm0, .inr (10, [.ref e0, .ref d0, .ref v0, .ref t0, .ref n0, .ref s0, .ref z0, .ref g0, .ref h0, .ref o0, .ref j0, .ref j1, .ref j2, .ref j3, .int 0, .int (-1), .int (-1), .int (-1)])), (t0, .inr (8, [.int 0, .ref t1, .ref t2, .ref t8, .ref t11, .int 1, .int 0, .int 0, .int 0])), (t2, .inr (1, [.int 0, .ref t3, .ref t4, .ref t5, .ref t6, .ref t7]))]) [0, 1, 2] (by decide) rfl
          exact vx_throw0 (A := A) (names := ["java/lang/RuntimeException", "java/lang/Exception"]) hx hb hlt hown (by decide) (by decide) (hts (.classLink RX12 152 "java/util/NoSuchElementException") (by decide +kernel)) (hts (.initialized "java/util/NoSuchElementException") (by decide +kernel)) (vx_hat (B := [.castable "java/util/NoSuchElementException" "java/util/NoSuchElementException", .declares ⟨"java/lang/RuntimeException", "<init>", "()V"⟩, .declares ⟨"java/lang/Exception", "<init>", "()V"⟩, .declares ⟨"java/lang/Throwable", "<init>", "()V"⟩]) (fun w hw => hts w (List.mem_cons_of_mem _ (List.mem_append_right _ hw))) (by decide +kernel) (vx_c (va_Nw.use rfl hE.1.2.2.1.2.2.2) (vx_c (va_Nw.use rfl hY.2.1) (vx_c (va_Nw.use rfl hY.2.2.1) (vx_c (va_Nw.use rfl hY.2.2.2) vx_n))))) (by decide +kernel) (hE.1.2.1.2.2.2.2.1.narrow hAB) (hE.1.2.1.2.2.2.2.2.narrow hAB) hS (by rw [hml]; exact hl.1) dX12_test_36 dX12_test_39 dX12_test_40 dX12_test_43 (fun x hx9 => (hno x hx9).elim) (Nat.le_of_ble_eq_true rfl) (Nat.le_of_ble_eq_true rfl) (Nat.le_of_ble_eq_true rfl) (Nat.le_of_ble_eq_true rfl) hlocks (g_thr hK hP hD hS) hS.2.2 (Nat.le_of_ble_eq_true rfl) (Nat.le_of_ble_eq_true rfl)
set_option maxHeartbeats 4000000 in
set_option maxRecDepth 100000 in
theorem cM_stands (l : Launch) (hlt : l.stackTraces = false) (D : va_G) (k : Nat → ClassId) (B0 : Nat) (ad : Nat → Nat) (al : Nat) (rm0 : Nat) (e0 : Nat) (d0 : Nat) (v0 : Nat) (t0 : Nat) (n0 : Nat) (s0 : Nat) (z0 : Nat) (g0 : Nat) (h0 : Nat) (o0 : Nat) (j0 : Nat) (j1 : Nat) (j2 : Nat) (j3 : Nat) (t1 : Nat) (t2 : Nat) (t3 : Nat) (t4 : Nat) (t5 : Nat) (t6 : Nat) (t7 : Nat) (t8 : Nat) (t11 : Nat) (p0 : Int32) : g_Ct l yX12_stands wsX12_stands ({ frames := 6, cells := 1, slots := 6, locals := 81 }) D k (gY B0 ad al [(rm0, .inr (10, [.ref e0, .ref d0, .ref v0, .ref t0, .ref n0, .ref s0, .ref z0, .ref g0, .ref h0, .ref o0, .ref j0, .ref j1, .ref j2, .ref j3, .int 0, .int (-1), .int (-1), .int (-1)])), (t0, .inr (8, [.int 0, .ref t1, .ref t2, .ref t8, .ref t11, .int 1, .int 0, .int 0, .int 0])), (t2, .inr (1, [.int 0, .ref t3, .ref t4, .ref t5, .ref t6, .ref t7]))]) [.ref rm0, .int p0] [(rm0, .inr (10, [.ref e0, .ref d0, .ref v0, .ref t0, .ref n0, .ref s0, .ref z0, .ref g0, .ref h0, .ref o0, .ref j0, .ref j1, .ref j2, .ref j3, .int 0, .int (-1), .int (-1), .int (-1)])), (t0, .inr (8, [.int 0, .ref t1, .ref t2, .ref t8, .ref t11, .int 1, .int 0, .int 0, .int 0])), (t2, .inr (1, [.int 0, .ref t3, .ref t4, .ref t5, .ref t6, .ref t7]))] 1 6 := by
  intro sz
  refine vx_ofW (cc := cX12_stands) (maxL := 2) (ret := (some .int)) (by decide) rfl ?_
  intro p e s m args below meth c s₁ B hml hno hv
  obtain ⟨rfl, hsz, hP, hK, hD0, hE⟩ := hv
  have hx := B.exec
  have hb := B.bytes
  have hr := B.returns
  have hts := atoms_spec (ws := wsX12_stands) B.pre
  have hown : s.vm.findClass RX12 = some m.cls := findClass_of_methodNamed B.named
  have hlocks := B.notSynchronized
  subst hsz
  have hD := hD0.self (sz := s.heap.size)
  generalize hAe : va_A [(rm0, .inr (10, [.ref e0, .ref d0, .ref v0, .ref t0, .ref n0, .ref s0, .ref z0, .ref g0, .ref h0, .ref o0, .ref j0, .ref j1, .ref j2, .ref j3, .int 0, .int (-1), .int (-1), .int (-1)])), (t0, .inr (8, [.int 0, .ref t1, .ref t2, .ref t8, .ref t11, .int 1, .int 0, .int 0, .int 0])), (t2, .inr (1, [.int 0, .ref t3, .ref t4, .ref t5, .ref t6, .ref t7]))] s.heap.size = A at hD ⊢
  have hA : ∀ q : Nat, s.heap.size ≤ q → A q := fun q h => by rw [← hAe]; exact Or.inr h
  have hS : va_S A s.heap s.heap [] := va_S.rf
  have hP : va_P D vwCl [(rm0, .inr (10, [.ref e0, .ref d0, .ref v0, .ref t0, .ref n0, .ref s0, .ref z0, .ref g0, .ref h0, .ref o0, .ref j0, .ref j1, .ref j2, .ref j3, .int 0, .int (-1), .int (-1), .int (-1)])), (t0, .inr (8, [.int 0, .ref t1, .ref t2, .ref t8, .ref t11, .int 1, .int 0, .int 0, .int 0])), (t2, .inr (1, [.int 0, .ref t3, .ref t4, .ref t5, .ref t6, .ref t7]))] s.heap := hP
  have hl := lv_entry ([.ref rm0, .int p0]) (n := 2) (Nat.le_of_ble_eq_true rfl)
  rw [lg_entry_eq]
  generalize (lg_sl ([.ref rm0, .int p0]) ++ List.replicate (2 - (lg_sl ([.ref rm0, .int p0])).length) Slot.unset).toArray = ls at hl ⊢
  have hl : lv_has ls 2 [(0, .ref rm0), (1, .int p0)] := hl
  have hY := hE
  have hE := hE.1
  have hAB := gX_AB hE hAe
  have hEn := hE.1.2.1.1.narrow hAB
  refine lv_aload_n hx hb dX12_stands_0 rfl (lv_at hl 0 rfl) ?_
  refine va_get (D := D) (ci := 10) (v := .ref t0) (C := RX12) (T := TX12) (N := 18) hx hb hts inX12_stands_X12 hown hK hP 0 rfl rfl 3 (by decide) (hts (.fieldLink RX12 37 "RungMoney" "town" "LRungMoney$Town;") (by decide +kernel)) (fun _ h9 => h9) rfl dX12_stands_1 ?_
  refine lv_iload_n hx hb dX12_stands_4 rfl (lv_at hl 1 rfl) ?_
  refine g_iV (As := [.int p0]) (rest := []) (wr := [(rm0, .inr (10, [.ref e0, .ref d0, .ref v0, .ref t0, .ref n0, .ref s0, .ref z0, .ref g0, .ref h0, .ref o0, .ref j0, .ref j1, .ref j2, .ref j3, .int 0, .int (-1), .int (-1), .int (-1)])), (t2, .inr (1, [.int 0, .ref t3, .ref t4, .ref t5, .ref t6, .ref t7]))]) ⟨hx, hb, hml, hown, hts⟩ (cT_hasMan l D k t0 t1 t2 t8 t11 p0) (cwV 1 hts gX12_stands_X10_hasMan rfl rfl rfl (by decide +kernel) ⟨Nat.le_of_ble_eq_true rfl, Nat.le_of_ble_eq_true rfl⟩) g_E0_ok (fun _ _ _ => trivial) hK hP hD hS hA 1 8 rfl rfl rfl [1] [0, 2] rfl rfl (by decide) rfl hl.1 rfl (Nat.le_of_ble_eq_true rfl) dX12_stands_5 ⟨Nat.le_of_ble_eq_true rfl, Nat.le_of_ble_eq_true rfl⟩ (fun u1 H locs hP hD hS => ?_)
  have hP : va_P D vwCl [(rm0, .inr (10, [.ref e0, .ref d0, .ref v0, .ref t0, .ref n0, .ref s0, .ref z0, .ref g0, .ref h0, .ref o0, .ref j0, .ref j1, .ref j2, .ref j3, .int 0, .int (-1), .int (-1), .int (-1)])), (t2, .inr (1, [.int 0, .ref t3, .ref t4, .ref t5, .ref t6, .ref t7])), (t0, .inr (8, [.int 0, .ref t1, .ref t2, .ref t8, .ref t11, .int 1, .int 0, .int 0, .int 0]))] H := hP
  have hD : va_D A [(rm0, .inr (10, [.ref e0, .ref d0, .ref v0, .ref t0, .ref n0, .ref s0, .ref z0, .ref g0, .ref h0, .ref o0, .ref j0, .ref j1, .ref j2, .ref j3, .int 0, .int (-1), .int (-1), .int (-1)])), (t2, .inr (1, [.int 0, .ref t3, .ref t4, .ref t5, .ref t6, .ref t7])), (t0, .inr (8, [.int 0, .ref t1, .ref t2, .ref t8, .ref t11, .int 1, .int 0, .int 0, .int 0]))] := hD
  refine lv_if_ne (tgt := 19) hx hb dX12_stands_8 (by decide) (fun h9 => absurd rfl h9) (fun _ => ?_)
  have hP := hP.sub (ws' := [(rm0, .inr (10, [.ref e0, .ref d0, .ref v0, .ref t0, .ref n0, .ref s0, .ref z0, .ref g0, .ref h0, .ref o0, .ref j0, .ref j1, .ref j2, .ref j3, .int 0, .int (-1), .int (-1), .int (-1)])), (t0, .inr (8, [.int 0, .ref t1, .ref t2, .ref t8, .ref t11, .int 1, .int 0, .int 0, .int 0])), (t2, .inr (1, [.int 0, .ref t3, .ref t4, .ref t5, .ref t6, .ref t7]))]) [0, 2, 1] rfl
  have hD := hD.sub (ws' := [(rm0, .inr (10, [.ref e0, .ref d0, .ref v0, .ref t0, .ref n0, .ref s0, .ref z0, .ref g0, .ref h0, .ref o0, .ref j0, .ref j1, .ref j2, .ref j3, .int 0, .int (-1), .int (-1), .int (-1)])), (t0, .inr (8, [.int 0, .ref t1, .ref t2, .ref t8, .ref t11, .int 1, .int 0, .int 0, .int 0])), (t2, .inr (1, [.int 0, .ref t3, .ref t4, .ref t5, .ref t6, .ref t7]))]) [0, 2, 1] (by decide) rfl
  exact vx_throw0 (A := A) (names := ["java/lang/RuntimeException", "java/lang/Exception"]) hx hb hlt hown (by decide) (by decide) (hts (.classLink RX12 152 "java/util/NoSuchElementException") (by decide +kernel)) (hts (.initialized "java/util/NoSuchElementException") (by decide +kernel)) (vx_hat (B := [.castable "java/util/NoSuchElementException" "java/util/NoSuchElementException", .declares ⟨"java/lang/RuntimeException", "<init>", "()V"⟩, .declares ⟨"java/lang/Exception", "<init>", "()V"⟩, .declares ⟨"java/lang/Throwable", "<init>", "()V"⟩]) (fun w hw => hts w (List.mem_cons_of_mem _ (List.mem_append_right _ hw))) (by decide +kernel) (vx_c (va_Nw.use rfl hE.1.2.2.1.2.2.2) (vx_c (va_Nw.use rfl hY.2.1) (vx_c (va_Nw.use rfl hY.2.2.1) (vx_c (va_Nw.use rfl hY.2.2.2) vx_n))))) (by decide +kernel) (hE.1.2.1.2.2.2.2.1.narrow hAB) (hE.1.2.1.2.2.2.2.2.narrow hAB) hS (by rw [hml]; exact hl.1) dX12_stands_11 dX12_stands_14 dX12_stands_15 dX12_stands_18 (fun x hx9 => (hno x hx9).elim) (Nat.le_of_ble_eq_true rfl) (Nat.le_of_ble_eq_true rfl) (Nat.le_of_ble_eq_true rfl) (Nat.le_of_ble_eq_true rfl) hlocks (g_thr hK hP hD hS) hS.2.2 (Nat.le_of_ble_eq_true rfl) (Nat.le_of_ble_eq_true rfl)
set_option maxHeartbeats 4000000 in
set_option maxRecDepth 100000 in
theorem cW_ladder (l : Launch) (hlt : l.stackTraces = false) (D : va_G) (k : Nat → ClassId) (B0 : Nat) (ad : Nat → Nat) (al : Nat) (rm0 : Nat) (e0 : Nat) (d0 : Nat) (v0 : Nat) (t0 : Nat) (n0 : Nat) (s0 : Nat) (z0 : Nat) (g0 : Nat) (h0 : Nat) (o0 : Nat) (j0 : Nat) (j1 : Nat) (j2 : Nat) (j3 : Nat) (t1 : Nat) (t2 : Nat) (t3 : Nat) (t4 : Nat) (t5 : Nat) (t6 : Nat) (t7 : Nat) (t8 : Nat) (t11 : Nat) (p0 : Int32) (p1 : Int32) (ou : Nat) : g_Ci l yL_ladder wsL_ladder ({ frames := 7, cells := 1, slots := 6, locals := 103 }) D k (gY B0 ad al [(rm0, .inr (10, [.ref e0, .ref d0, .ref v0, .ref t0, .ref n0, .ref s0, .ref z0, .ref g0, .ref h0, .ref o0, .ref j0, .ref j1, .ref j2, .ref j3, .int 0, .int (-1), .int (-1), .int (-1)])), (t0, .inr (8, [.int 0, .ref t1, .ref t2, .ref t8, .ref t11, .int 1, .int 0, .int 0, .int 0])), (t2, .inr (1, [.int 0, .ref t3, .ref t4, .ref t5, .ref t6, .ref t7]))]) [.ref rm0, .int p0, .int p1, .ref ou] [(rm0, .inr (10, [.ref e0, .ref d0, .ref v0, .ref t0, .ref n0, .ref s0, .ref z0, .ref g0, .ref h0, .ref o0, .ref j0, .ref j1, .ref j2, .ref j3, .int 0, .int (-1), .int (-1), .int (-1)])), (t0, .inr (8, [.int 0, .ref t1, .ref t2, .ref t8, .ref t11, .int 1, .int 0, .int 0, .int 0])), (t2, .inr (1, [.int 0, .ref t3, .ref t4, .ref t5, .ref t6, .ref t7]))] 1 (fun u => [(rm0, .inr (10, [.ref e0, .ref d0, .ref v0, .ref t0, .ref n0, .ref s0, .ref z0, .ref g0, .ref h0, .ref o0, .ref j0, .ref j1, .ref j2, .ref j3, .int 0, .int (-1), .int (-1), .int (-1)])), (t0, .inr (8, [.int 0, .ref t1, .ref t2, .ref t8, .ref t11, .int 1, .int 0, .int 0, .int 0])), (t2, .inr (1, [.int 0, .ref t3, .ref t4, .ref t5, .ref t6, .ref t7]))]) 1 6 := by
  intro sz
  refine va_MetW (hh := [(0, 10, 13, 13)]) (cc := cL_ladder) (maxL := 5) (ret := (some .int)) (by decide) rfl ?_
  intro p e s m args below meth c s₁ B hml hv
  obtain ⟨rfl, hsz, hP, hK, hD0, hE⟩ := hv
  have hx := B.exec
  have hb := B.bytes
  have hr := B.returns
  have hts := atoms_spec (ws := wsL_ladder) B.pre
  have hown : s.vm.findClass RL = some m.cls := findClass_of_methodNamed B.named
  have hlocks := B.notSynchronized
  subst hsz
  have hD := hD0.self (sz := s.heap.size)
  generalize hAe : va_A [(rm0, .inr (10, [.ref e0, .ref d0, .ref v0, .ref t0, .ref n0, .ref s0, .ref z0, .ref g0, .ref h0, .ref o0, .ref j0, .ref j1, .ref j2, .ref j3, .int 0, .int (-1), .int (-1), .int (-1)])), (t0, .inr (8, [.int 0, .ref t1, .ref t2, .ref t8, .ref t11, .int 1, .int 0, .int 0, .int 0])), (t2, .inr (1, [.int 0, .ref t3, .ref t4, .ref t5, .ref t6, .ref t7]))] s.heap.size = A at hD ⊢
  have hA : ∀ q : Nat, s.heap.size ≤ q → A q := fun q h => by rw [← hAe]; exact Or.inr h
  have hS : va_S A s.heap s.heap [] := va_S.rf
  have hP : va_P D vwCl [(rm0, .inr (10, [.ref e0, .ref d0, .ref v0, .ref t0, .ref n0, .ref s0, .ref z0, .ref g0, .ref h0, .ref o0, .ref j0, .ref j1, .ref j2, .ref j3, .int 0, .int (-1), .int (-1), .int (-1)])), (t0, .inr (8, [.int 0, .ref t1, .ref t2, .ref t8, .ref t11, .int 1, .int 0, .int 0, .int 0])), (t2, .inr (1, [.int 0, .ref t3, .ref t4, .ref t5, .ref t6, .ref t7]))] s.heap := hP
  have hl := lv_entry ([.ref rm0, .int p0, .int p1, .ref ou]) (n := 5) (Nat.le_of_ble_eq_true rfl)
  rw [lg_entry_eq]
  generalize (lg_sl ([.ref rm0, .int p0, .int p1, .ref ou]) ++ List.replicate (5 - (lg_sl ([.ref rm0, .int p0, .int p1, .ref ou])).length) Slot.unset).toArray = ls at hl ⊢
  have hl : lv_has ls 5 [(0, .ref rm0), (1, .int p0), (2, .int p1), (3, .ref ou)] := hl
  have htab : c.exceptionTable.toList = tableOf [(0, 10, 13, 13)] := vx_table (x := yL_ladder) B (hts _ List.mem_cons_self)
  have hY := hE
  have hE := hE.1
  have hAB := gX_AB hE hAe
  have hEn := hE.1.2.1.1.narrow hAB
  refine lv_aload_n hx hb dL_ladder_0 rfl (lv_at hl 3 rfl) ?_
  refine lv_iconst (v := 0) hx hb dL_ladder_1 (by decide) ?_
  refine lv_aload_n hx hb dL_ladder_2 rfl (lv_at hl 0 rfl) ?_
  refine lv_iload_n hx hb dL_ladder_3 rfl (lv_at hl 1 rfl) ?_
  refine lv_iload_n hx hb dL_ladder_4 rfl (lv_at hl 2 rfl) ?_
  refine g_tV (As := [.int p0, .int p1]) (rest := [.int 0, .ref ou]) (wr := []) ⟨hx, hb, hml, hown, hts⟩ (cM_ladder l hlt D k B0 ad al rm0 e0 d0 v0 t0 n0 s0 z0 g0 h0 o0 j0 j1 j2 j3 t1 t2 t3 t4 t5 t6 t7 t8 t11 p0 p1) (cwV 2 hts gL_ladder_X12_ladder rfl rfl rfl (by decide +kernel) ⟨Nat.le_of_ble_eq_true rfl, Nat.le_of_ble_eq_true rfl⟩) gY_ok (gY_pass hY hAB hS hD [0, 1, 2] rfl) hK hP hD hS hA 0 10 rfl rfl rfl [0, 1, 2] [] rfl rfl (by decide) rfl hl.1 rfl (Nat.le_of_ble_eq_true rfl) dL_ladder_5 ⟨Nat.le_of_ble_eq_true rfl, Nat.le_of_ble_eq_true rfl⟩ (fun q2 ce H locs hP hD hS hc1 hc2 hc3 => ?_)
  refine cx_catch (name := "java/util/NoSuchElementException") hown ⟨0, 10, 13, 13⟩ [] htab (by decide) (by decide) (hts (.classLink RL 13 "java/util/NoSuchElementException") (by decide +kernel)) (va_Nw.use rfl hE.1.2.2.1.2.2.2) hc1 hc2 hc3 ?_
  have hP : va_P D vwCl [(rm0, .inr (10, [.ref e0, .ref d0, .ref v0, .ref t0, .ref n0, .ref s0, .ref z0, .ref g0, .ref h0, .ref o0, .ref j0, .ref j1, .ref j2, .ref j3, .int 0, .int (-1), .int (-1), .int (-1)])), (t0, .inr (8, [.int 0, .ref t1, .ref t2, .ref t8, .ref t11, .int 1, .int 0, .int 0, .int 0])), (t2, .inr (1, [.int 0, .ref t3, .ref t4, .ref t5, .ref t6, .ref t7]))] H := hP
  have hD : va_D A [(rm0, .inr (10, [.ref e0, .ref d0, .ref v0, .ref t0, .ref n0, .ref s0, .ref z0, .ref g0, .ref h0, .ref o0, .ref j0, .ref j1, .ref j2, .ref j3, .int 0, .int (-1), .int (-1), .int (-1)])), (t0, .inr (8, [.int 0, .ref t1, .ref t2, .ref t8, .ref t11, .int 1, .int 0, .int 0, .int 0])), (t2, .inr (1, [.int 0, .ref t3, .ref t4, .ref t5, .ref t6, .ref t7]))] := hD
  refine W.widen (k := 1) (n := 6) (Nat.le_of_ble_eq_true rfl) (Nat.le_of_ble_eq_true rfl) ?_
  refine W.eq (g2 := F0 m 13 ls [.ref q2]) rfl ?_
  refine lv_astore (lv' := [(4, .ref q2), (0, .ref rm0), (1, .int p0), (2, .int p1), (3, .ref ou)]) hx hb dL_ladder_13 hl (by decide) rfl (fun ls hl => ?_)
  refine lv_iconst (v := 1) hx hb dL_ladder_15 (by decide) ?_
  have hP := hP.sub (ws' := [(rm0, .inr (10, [.ref e0, .ref d0, .ref v0, .ref t0, .ref n0, .ref s0, .ref z0, .ref g0, .ref h0, .ref o0, .ref j0, .ref j1, .ref j2, .ref j3, .int 0, .int (-1), .int (-1), .int (-1)])), (t0, .inr (8, [.int 0, .ref t1, .ref t2, .ref t8, .ref t11, .int 1, .int 0, .int 0, .int 0])), (t2, .inr (1, [.int 0, .ref t3, .ref t4, .ref t5, .ref t6, .ref t7]))]) [0, 1, 2] rfl
  have hD := hD.sub (ws' := [(rm0, .inr (10, [.ref e0, .ref d0, .ref v0, .ref t0, .ref n0, .ref s0, .ref z0, .ref g0, .ref h0, .ref o0, .ref j0, .ref j1, .ref j2, .ref j3, .int 0, .int (-1), .int (-1), .int (-1)])), (t0, .inr (8, [.int 0, .ref t1, .ref t2, .ref t8, .ref t11, .int 1, .int 0, .int 0, .int 0])), (t2, .inr (1, [.int 0, .ref t3, .ref t4, .ref t5, .ref t6, .ref t7]))]) [0, 1, 2] (by decide) rfl
  exact g_iret hx hb hr rfl hlocks hK (fun _ => 0) hP hD hS rfl dL_ladder_16 ⟨Nat.le_of_ble_eq_true rfl, Nat.le_of_ble_eq_true rfl⟩
set_option maxHeartbeats 4000000 in
set_option maxRecDepth 100000 in
theorem cW_test (l : Launch) (hlt : l.stackTraces = false) (D : va_G) (k : Nat → ClassId) (B0 : Nat) (ad : Nat → Nat) (al : Nat) (rm0 : Nat) (e0 : Nat) (d0 : Nat) (v0 : Nat) (t0 : Nat) (n0 : Nat) (s0 : Nat) (z0 : Nat) (g0 : Nat) (h0 : Nat) (o0 : Nat) (j0 : Nat) (j1 : Nat) (j2 : Nat) (j3 : Nat) (t1 : Nat) (t2 : Nat) (t3 : Nat) (t4 : Nat) (t5 : Nat) (t6 : Nat) (t7 : Nat) (t8 : Nat) (t11 : Nat) (p0 : Int32) (p1 : Int32) (ou : Nat) : g_Ci l yL_test wsL_test ({ frames := 7, cells := 1, slots := 6, locals := 108 }) D k (gY B0 ad al [(rm0, .inr (10, [.ref e0, .ref d0, .ref v0, .ref t0, .ref n0, .ref s0, .ref z0, .ref g0, .ref h0, .ref o0, .ref j0, .ref j1, .ref j2, .ref j3, .int 0, .int (-1), .int (-1), .int (-1)])), (t0, .inr (8, [.int 0, .ref t1, .ref t2, .ref t8, .ref t11, .int 1, .int 0, .int 0, .int 0])), (t2, .inr (1, [.int 0, .ref t3, .ref t4, .ref t5, .ref t6, .ref t7]))]) [.ref rm0, .int p0, .int p1, .ref ou] [(rm0, .inr (10, [.ref e0, .ref d0, .ref v0, .ref t0, .ref n0, .ref s0, .ref z0, .ref g0, .ref h0, .ref o0, .ref j0, .ref j1, .ref j2, .ref j3, .int 0, .int (-1), .int (-1), .int (-1)])), (t0, .inr (8, [.int 0, .ref t1, .ref t2, .ref t8, .ref t11, .int 1, .int 0, .int 0, .int 0])), (t2, .inr (1, [.int 0, .ref t3, .ref t4, .ref t5, .ref t6, .ref t7]))] 1 (fun u => [(rm0, .inr (10, [.ref e0, .ref d0, .ref v0, .ref t0, .ref n0, .ref s0, .ref z0, .ref g0, .ref h0, .ref o0, .ref j0, .ref j1, .ref j2, .ref j3, .int 0, .int (-1), .int (-1), .int (-1)])), (t0, .inr (8, [.int 0, .ref t1, .ref t2, .ref t8, .ref t11, .int 1, .int 0, .int 0, .int 0])), (t2, .inr (1, [.int 0, .ref t3, .ref t4, .ref t5, .ref t6, .ref t7]))]) 1 6 := by
  intro sz
  refine va_MetW (hh := [(0, 10, 13, 13)]) (cc := cL_test) (maxL := 5) (ret := (some .int)) (by decide) rfl ?_
  intro p e s m args below meth c s₁ B hml hv
  obtain ⟨rfl, hsz, hP, hK, hD0, hE⟩ := hv
  have hx := B.exec
  have hb := B.bytes
  have hr := B.returns
  have hts := atoms_spec (ws := wsL_test) B.pre
  have hown : s.vm.findClass RL = some m.cls := findClass_of_methodNamed B.named
  have hlocks := B.notSynchronized
  subst hsz
  have hD := hD0.self (sz := s.heap.size)
  generalize hAe : va_A [(rm0, .inr (10, [.ref e0, .ref d0, .ref v0, .ref t0, .ref n0, .ref s0, .ref z0, .ref g0, .ref h0, .ref o0, .ref j0, .ref j1, .ref j2, .ref j3, .int 0, .int (-1), .int (-1), .int (-1)])), (t0, .inr (8, [.int 0, .ref t1, .ref t2, .ref t8, .ref t11, .int 1, .int 0, .int 0, .int 0])), (t2, .inr (1, [.int 0, .ref t3, .ref t4, .ref t5, .ref t6, .ref t7]))] s.heap.size = A at hD ⊢
  have hA : ∀ q : Nat, s.heap.size ≤ q → A q := fun q h => by rw [← hAe]; exact Or.inr h
  have hS : va_S A s.heap s.heap [] := va_S.rf
  have hP : va_P D vwCl [(rm0, .inr (10, [.ref e0, .ref d0, .ref v0, .ref t0, .ref n0, .ref s0, .ref z0, .ref g0, .ref h0, .ref o0, .ref j0, .ref j1, .ref j2, .ref j3, .int 0, .int (-1), .int (-1), .int (-1)])), (t0, .inr (8, [.int 0, .ref t1, .ref t2, .ref t8, .ref t11, .int 1, .int 0, .int 0, .int 0])), (t2, .inr (1, [.int 0, .ref t3, .ref t4, .ref t5, .ref t6, .ref t7]))] s.heap := hP
  have hl := lv_entry ([.ref rm0, .int p0, .int p1, .ref ou]) (n := 5) (Nat.le_of_ble_eq_true rfl)
  rw [lg_entry_eq]
  generalize (lg_sl ([.ref rm0, .int p0, .int p1, .ref ou]) ++ List.replicate (5 - (lg_sl ([.ref rm0, .int p0, .int p1, .ref ou])).length) Slot.unset).toArray = ls at hl ⊢
  have hl : lv_has ls 5 [(0, .ref rm0), (1, .int p0), (2, .int p1), (3, .ref ou)] := hl
  have htab : c.exceptionTable.toList = tableOf [(0, 10, 13, 13)] := vx_table (x := yL_test) B (hts _ List.mem_cons_self)
  have hY := hE
  have hE := hE.1
  have hAB := gX_AB hE hAe
  have hEn := hE.1.2.1.1.narrow hAB
  refine lv_aload_n hx hb dL_test_0 rfl (lv_at hl 3 rfl) ?_
  refine lv_iconst (v := 0) hx hb dL_test_1 (by decide) ?_
  refine lv_aload_n hx hb dL_test_2 rfl (lv_at hl 0 rfl) ?_
  refine lv_iload_n hx hb dL_test_3 rfl (lv_at hl 1 rfl) ?_
  refine lv_iload_n hx hb dL_test_4 rfl (lv_at hl 2 rfl) ?_
  refine g_tV (As := [.int p0, .int p1]) (rest := [.int 0, .ref ou]) (wr := []) ⟨hx, hb, hml, hown, hts⟩ (cM_test l hlt D k B0 ad al rm0 e0 d0 v0 t0 n0 s0 z0 g0 h0 o0 j0 j1 j2 j3 t1 t2 t3 t4 t5 t6 t7 t8 t11 p0 p1) (cwV 2 hts gL_test_X12_test rfl rfl rfl (by decide +kernel) ⟨Nat.le_of_ble_eq_true rfl, Nat.le_of_ble_eq_true rfl⟩) gY_ok (gY_pass hY hAB hS hD [0, 1, 2] rfl) hK hP hD hS hA 0 10 rfl rfl rfl [0, 1, 2] [] rfl rfl (by decide) rfl hl.1 rfl (Nat.le_of_ble_eq_true rfl) dL_test_5 ⟨Nat.le_of_ble_eq_true rfl, Nat.le_of_ble_eq_true rfl⟩ (fun q2 ce H locs hP hD hS hc1 hc2 hc3 => ?_)
  refine cx_catch (name := "java/util/NoSuchElementException") hown ⟨0, 10, 13, 13⟩ [] htab (by decide) (by decide) (hts (.classLink RL 13 "java/util/NoSuchElementException") (by decide +kernel)) (va_Nw.use rfl hE.1.2.2.1.2.2.2) hc1 hc2 hc3 ?_
  have hP : va_P D vwCl [(rm0, .inr (10, [.ref e0, .ref d0, .ref v0, .ref t0, .ref n0, .ref s0, .ref z0, .ref g0, .ref h0, .ref o0, .ref j0, .ref j1, .ref j2, .ref j3, .int 0, .int (-1), .int (-1), .int (-1)])), (t0, .inr (8, [.int 0, .ref t1, .ref t2, .ref t8, .ref t11, .int 1, .int 0, .int 0, .int 0])), (t2, .inr (1, [.int 0, .ref t3, .ref t4, .ref t5, .ref t6, .ref t7]))] H := hP
  have hD : va_D A [(rm0, .inr (10, [.ref e0, .ref d0, .ref v0, .ref t0, .ref n0, .ref s0, .ref z0, .ref g0, .ref h0, .ref o0, .ref j0, .ref j1, .ref j2, .ref j3, .int 0, .int (-1), .int (-1), .int (-1)])), (t0, .inr (8, [.int 0, .ref t1, .ref t2, .ref t8, .ref t11, .int 1, .int 0, .int 0, .int 0])), (t2, .inr (1, [.int 0, .ref t3, .ref t4, .ref t5, .ref t6, .ref t7]))] := hD
  refine W.widen (k := 1) (n := 6) (Nat.le_of_ble_eq_true rfl) (Nat.le_of_ble_eq_true rfl) ?_
  refine W.eq (g2 := F0 m 13 ls [.ref q2]) rfl ?_
  refine lv_astore (lv' := [(4, .ref q2), (0, .ref rm0), (1, .int p0), (2, .int p1), (3, .ref ou)]) hx hb dL_test_13 hl (by decide) rfl (fun ls hl => ?_)
  refine lv_iconst (v := 1) hx hb dL_test_15 (by decide) ?_
  have hP := hP.sub (ws' := [(rm0, .inr (10, [.ref e0, .ref d0, .ref v0, .ref t0, .ref n0, .ref s0, .ref z0, .ref g0, .ref h0, .ref o0, .ref j0, .ref j1, .ref j2, .ref j3, .int 0, .int (-1), .int (-1), .int (-1)])), (t0, .inr (8, [.int 0, .ref t1, .ref t2, .ref t8, .ref t11, .int 1, .int 0, .int 0, .int 0])), (t2, .inr (1, [.int 0, .ref t3, .ref t4, .ref t5, .ref t6, .ref t7]))]) [0, 1, 2] rfl
  have hD := hD.sub (ws' := [(rm0, .inr (10, [.ref e0, .ref d0, .ref v0, .ref t0, .ref n0, .ref s0, .ref z0, .ref g0, .ref h0, .ref o0, .ref j0, .ref j1, .ref j2, .ref j3, .int 0, .int (-1), .int (-1), .int (-1)])), (t0, .inr (8, [.int 0, .ref t1, .ref t2, .ref t8, .ref t11, .int 1, .int 0, .int 0, .int 0])), (t2, .inr (1, [.int 0, .ref t3, .ref t4, .ref t5, .ref t6, .ref t7]))]) [0, 1, 2] (by decide) rfl
  exact g_iret hx hb hr rfl hlocks hK (fun _ => 0) hP hD hS rfl dL_test_16 ⟨Nat.le_of_ble_eq_true rfl, Nat.le_of_ble_eq_true rfl⟩
set_option maxHeartbeats 4000000 in
set_option maxRecDepth 100000 in
theorem cW_stands (l : Launch) (hlt : l.stackTraces = false) (D : va_G) (k : Nat → ClassId) (B0 : Nat) (ad : Nat → Nat) (al : Nat) (rm0 : Nat) (e0 : Nat) (d0 : Nat) (v0 : Nat) (t0 : Nat) (n0 : Nat) (s0 : Nat) (z0 : Nat) (g0 : Nat) (h0 : Nat) (o0 : Nat) (j0 : Nat) (j1 : Nat) (j2 : Nat) (j3 : Nat) (t1 : Nat) (t2 : Nat) (t3 : Nat) (t4 : Nat) (t5 : Nat) (t6 : Nat) (t7 : Nat) (t8 : Nat) (t11 : Nat) (p0 : Int32) (ou : Nat) : g_Ci l yL_stands wsL_stands ({ frames := 7, cells := 1, slots := 6, locals := 102 }) D k (gY B0 ad al [(rm0, .inr (10, [.ref e0, .ref d0, .ref v0, .ref t0, .ref n0, .ref s0, .ref z0, .ref g0, .ref h0, .ref o0, .ref j0, .ref j1, .ref j2, .ref j3, .int 0, .int (-1), .int (-1), .int (-1)])), (t0, .inr (8, [.int 0, .ref t1, .ref t2, .ref t8, .ref t11, .int 1, .int 0, .int 0, .int 0])), (t2, .inr (1, [.int 0, .ref t3, .ref t4, .ref t5, .ref t6, .ref t7]))]) [.ref rm0, .int p0, .ref ou] [(rm0, .inr (10, [.ref e0, .ref d0, .ref v0, .ref t0, .ref n0, .ref s0, .ref z0, .ref g0, .ref h0, .ref o0, .ref j0, .ref j1, .ref j2, .ref j3, .int 0, .int (-1), .int (-1), .int (-1)])), (t0, .inr (8, [.int 0, .ref t1, .ref t2, .ref t8, .ref t11, .int 1, .int 0, .int 0, .int 0])), (t2, .inr (1, [.int 0, .ref t3, .ref t4, .ref t5, .ref t6, .ref t7]))] 1 (fun u => [(rm0, .inr (10, [.ref e0, .ref d0, .ref v0, .ref t0, .ref n0, .ref s0, .ref z0, .ref g0, .ref h0, .ref o0, .ref j0, .ref j1, .ref j2, .ref j3, .int 0, .int (-1), .int (-1), .int (-1)])), (t0, .inr (8, [.int 0, .ref t1, .ref t2, .ref t8, .ref t11, .int 1, .int 0, .int 0, .int 0])), (t2, .inr (1, [.int 0, .ref t3, .ref t4, .ref t5, .ref t6, .ref t7]))]) 1 6 := by
  intro sz
  refine va_MetW (hh := [(0, 9, 12, 13)]) (cc := cL_stands) (maxL := 4) (ret := (some .int)) (by decide) rfl ?_
  intro p e s m args below meth c s₁ B hml hv
  obtain ⟨rfl, hsz, hP, hK, hD0, hE⟩ := hv
  have hx := B.exec
  have hb := B.bytes
  have hr := B.returns
  have hts := atoms_spec (ws := wsL_stands) B.pre
  have hown : s.vm.findClass RL = some m.cls := findClass_of_methodNamed B.named
  have hlocks := B.notSynchronized
  subst hsz
  have hD := hD0.self (sz := s.heap.size)
  generalize hAe : va_A [(rm0, .inr (10, [.ref e0, .ref d0, .ref v0, .ref t0, .ref n0, .ref s0, .ref z0, .ref g0, .ref h0, .ref o0, .ref j0, .ref j1, .ref j2, .ref j3, .int 0, .int (-1), .int (-1), .int (-1)])), (t0, .inr (8, [.int 0, .ref t1, .ref t2, .ref t8, .ref t11, .int 1, .int 0, .int 0, .int 0])), (t2, .inr (1, [.int 0, .ref t3, .ref t4, .ref t5, .ref t6, .ref t7]))] s.heap.size = A at hD ⊢
  have hA : ∀ q : Nat, s.heap.size ≤ q → A q := fun q h => by rw [← hAe]; exact Or.inr h
  have hS : va_S A s.heap s.heap [] := va_S.rf
  have hP : va_P D vwCl [(rm0, .inr (10, [.ref e0, .ref d0, .ref v0, .ref t0, .ref n0, .ref s0, .ref z0, .ref g0, .ref h0, .ref o0, .ref j0, .ref j1, .ref j2, .ref j3, .int 0, .int (-1), .int (-1), .int (-1)])), (t0, .inr (8, [.int 0, .ref t1, .ref t2, .ref t8, .ref t11, .int 1, .int 0, .int 0, .int 0])), (t2, .inr (1, [.int 0, .ref t3, .ref t4, .ref t5, .ref t6, .ref t7]))] s.heap := hP
  have hl := lv_entry ([.ref rm0, .int p0, .ref ou]) (n := 4) (Nat.le_of_ble_eq_true rfl)
  rw [lg_entry_eq]
  generalize (lg_sl ([.ref rm0, .int p0, .ref ou]) ++ List.replicate (4 - (lg_sl ([.ref rm0, .int p0, .ref ou])).length) Slot.unset).toArray = ls at hl ⊢
  have hl : lv_has ls 4 [(0, .ref rm0), (1, .int p0), (2, .ref ou)] := hl
  have htab : c.exceptionTable.toList = tableOf [(0, 9, 12, 13)] := vx_table (x := yL_stands) B (hts _ List.mem_cons_self)
  have hY := hE
  have hE := hE.1
  have hAB := gX_AB hE hAe
  have hEn := hE.1.2.1.1.narrow hAB
  refine lv_aload_n hx hb dL_stands_0 rfl (lv_at hl 2 rfl) ?_
  refine lv_iconst (v := 0) hx hb dL_stands_1 (by decide) ?_
  refine lv_aload_n hx hb dL_stands_2 rfl (lv_at hl 0 rfl) ?_
  refine lv_iload_n hx hb dL_stands_3 rfl (lv_at hl 1 rfl) ?_
  refine g_tV (As := [.int p0]) (rest := [.int 0, .ref ou]) (wr := []) ⟨hx, hb, hml, hown, hts⟩ (cM_stands l hlt D k B0 ad al rm0 e0 d0 v0 t0 n0 s0 z0 g0 h0 o0 j0 j1 j2 j3 t1 t2 t3 t4 t5 t6 t7 t8 t11 p0) (cwV 1 hts gL_stands_X12_stands rfl rfl rfl (by decide +kernel) ⟨Nat.le_of_ble_eq_true rfl, Nat.le_of_ble_eq_true rfl⟩) gY_ok (gY_pass hY hAB hS hD [0, 1, 2] rfl) hK hP hD hS hA 0 10 rfl rfl rfl [0, 1, 2] [] rfl rfl (by decide) rfl hl.1 rfl (Nat.le_of_ble_eq_true rfl) dL_stands_4 ⟨Nat.le_of_ble_eq_true rfl, Nat.le_of_ble_eq_true rfl⟩ (fun q2 ce H locs hP hD hS hc1 hc2 hc3 => ?_)
  refine cx_catch (name := "java/util/NoSuchElementException") hown ⟨0, 9, 12, 13⟩ [] htab (by decide) (by decide) (hts (.classLink RL 13 "java/util/NoSuchElementException") (by decide +kernel)) (va_Nw.use rfl hE.1.2.2.1.2.2.2) hc1 hc2 hc3 ?_
  have hP : va_P D vwCl [(rm0, .inr (10, [.ref e0, .ref d0, .ref v0, .ref t0, .ref n0, .ref s0, .ref z0, .ref g0, .ref h0, .ref o0, .ref j0, .ref j1, .ref j2, .ref j3, .int 0, .int (-1), .int (-1), .int (-1)])), (t0, .inr (8, [.int 0, .ref t1, .ref t2, .ref t8, .ref t11, .int 1, .int 0, .int 0, .int 0])), (t2, .inr (1, [.int 0, .ref t3, .ref t4, .ref t5, .ref t6, .ref t7]))] H := hP
  have hD : va_D A [(rm0, .inr (10, [.ref e0, .ref d0, .ref v0, .ref t0, .ref n0, .ref s0, .ref z0, .ref g0, .ref h0, .ref o0, .ref j0, .ref j1, .ref j2, .ref j3, .int 0, .int (-1), .int (-1), .int (-1)])), (t0, .inr (8, [.int 0, .ref t1, .ref t2, .ref t8, .ref t11, .int 1, .int 0, .int 0, .int 0])), (t2, .inr (1, [.int 0, .ref t3, .ref t4, .ref t5, .ref t6, .ref t7]))] := hD
  refine W.widen (k := 1) (n := 6) (Nat.le_of_ble_eq_true rfl) (Nat.le_of_ble_eq_true rfl) ?_
  refine W.eq (g2 := F0 m 12 ls [.ref q2]) rfl ?_
  refine lv_astore_n (lv' := [(3, .ref q2), (0, .ref rm0), (1, .int p0), (2, .ref ou)]) hx hb dL_stands_12 rfl hl (by decide) rfl (fun ls hl => ?_)
  refine lv_iconst (v := 1) hx hb dL_stands_13 (by decide) ?_
  have hP := hP.sub (ws' := [(rm0, .inr (10, [.ref e0, .ref d0, .ref v0, .ref t0, .ref n0, .ref s0, .ref z0, .ref g0, .ref h0, .ref o0, .ref j0, .ref j1, .ref j2, .ref j3, .int 0, .int (-1), .int (-1), .int (-1)])), (t0, .inr (8, [.int 0, .ref t1, .ref t2, .ref t8, .ref t11, .int 1, .int 0, .int 0, .int 0])), (t2, .inr (1, [.int 0, .ref t3, .ref t4, .ref t5, .ref t6, .ref t7]))]) [0, 1, 2] rfl
  have hD := hD.sub (ws' := [(rm0, .inr (10, [.ref e0, .ref d0, .ref v0, .ref t0, .ref n0, .ref s0, .ref z0, .ref g0, .ref h0, .ref o0, .ref j0, .ref j1, .ref j2, .ref j3, .int 0, .int (-1), .int (-1), .int (-1)])), (t0, .inr (8, [.int 0, .ref t1, .ref t2, .ref t8, .ref t11, .int 1, .int 0, .int 0, .int 0])), (t2, .inr (1, [.int 0, .ref t3, .ref t4, .ref t5, .ref t6, .ref t7]))]) [0, 1, 2] (by decide) rfl
  exact g_iret hx hb hr rfl hlocks hK (fun _ => 0) hP hD hS rfl dL_stands_14 ⟨Nat.le_of_ble_eq_true rfl, Nat.le_of_ble_eq_true rfl⟩

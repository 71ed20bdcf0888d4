set_option maxRecDepth 20000 in
theorem ggX4_read_X7_open : GoodIn wsX4_read wsX7_open := goodIn_r _ [7, 8, 9, 10, 11, 12, 13, 14, 6, 15, 16, 17, 18, 19, 20, 21, 22, 23, 24, 25, 26, 27, 28, 29, 30, 31, 111, 112, 113, 114, 115, 116, 117, 118, 119, 120, 121, 122, 123] (by decide +kernel) (by decide +kernel)
set_option maxRecDepth 20000 in
theorem gX4_read_X7_open : GoodIn wsX4_read (wsV RX4 35 RX7 yX7_open wsX7_open) := goodIn_app (goodIn_of _ (by decide +kernel)) ggX4_read_X7_open
theorem dX4_read_0 : decode cX4_read 0 = .ok (.aload_n 0, 1) := by decide +kernel
theorem dX4_read_1 : decode cX4_read 1 = .ok (.iconst 0, 1) := by decide +kernel
theorem dX4_read_2 : decode cX4_read 2 = .ok (.putfield 31, 3) := by decide +kernel
theorem dX4_read_5 : decode cX4_read 5 = .ok (.aload_n 1, 1) := by decide +kernel
theorem dX4_read_6 : decode cX4_read 6 = .ok (.sipush 400, 3) := by decide +kernel
theorem dX4_read_9 : decode cX4_read 9 = .ok (.invokevirtual 35, 3) := by decide +kernel
theorem dX4_read_12 : decode cX4_read 12 = .ok (.iconst 0, 1) := by decide +kernel
theorem dX4_read_13 : decode cX4_read 13 = .ok (.istore_n 3, 1) := by decide +kernel
theorem dX4_read_14 : decode cX4_read 14 = .ok (.iload_n 3, 1) := by decide +kernel
theorem dX4_read_15 : decode cX4_read 15 = .ok (.bipush 40, 2) := by decide +kernel
theorem dX4_read_17 : decode cX4_read 17 = .ok (.if_icmp .gt 36, 3) := by decide +kernel
theorem dX4_read_20 : decode cX4_read 20 = .ok (.aload_n 1, 1) := by decide +kernel
theorem dX4_read_21 : decode cX4_read 21 = .ok (.getfield 41, 3) := by decide +kernel
theorem dX4_read_24 : decode cX4_read 24 = .ok (.ifCond .eq 29, 3) := by decide +kernel
theorem dX4_read_53 : decode cX4_read 53 = .ok (.iconst 1, 1) := by decide +kernel
theorem dX4_read_54 : decode cX4_read 54 = .ok (.ireturn, 1) := by decide +kernel
theorem dX4_live_0 : decode cX4_live 0 = .ok (.aload_n 0, 1) := by decide +kernel
theorem dX4_live_1 : decode cX4_live 1 = .ok (.iconst 0, 1) := by decide +kernel
theorem dX4_live_2 : decode cX4_live 2 = .ok (.putfield 96, 3) := by decide +kernel
theorem dX4_live_5 : decode cX4_live 5 = .ok (.aload_n 0, 1) := by decide +kernel
theorem dX4_live_6 : decode cX4_live 6 = .ok (.iconst 0, 1) := by decide +kernel
theorem dX4_live_7 : decode cX4_live 7 = .ok (.putfield 99, 3) := by decide +kernel
theorem dX4_live_10 : decode cX4_live 10 = .ok (.aload_n 0, 1) := by decide +kernel
theorem dX4_live_11 : decode cX4_live 11 = .ok (.getfield 99, 3) := by decide +kernel
theorem dX4_live_14 : decode cX4_live 14 = .ok (.aload_n 0, 1) := by decide +kernel
theorem dX4_live_15 : decode cX4_live 15 = .ok (.getfield 31, 3) := by decide +kernel
theorem dX4_live_18 : decode cX4_live 18 = .ok (.if_icmp .ge 59, 3) := by decide +kernel
theorem dX4_live_77 : decode cX4_live 77 = .ok (.return_, 1) := by decide +kernel
set_option maxRecDepth 20000 in
theorem ggX7_open_X7_step : GoodIn wsX7_open wsX7_step := goodIn_r _ [9, 2, 10, 11, 12, 13, 14, 15, 16, 1, 17, 18, 19, 8, 20, 21, 22, 23, 24, 25, 26, 27, 28, 29, 30, 31, 32, 33, 34, 35, 36, 37, 38] (by decide +kernel) (by decide +kernel)
set_option maxRecDepth 20000 in
theorem gX7_open_X7_step : GoodIn wsX7_open (wsV RX7 28 RX7 yX7_step wsX7_step) := goodIn_app (goodIn_of _ (by decide +kernel)) ggX7_open_X7_step
theorem dX7_open_0 : decode cX7_open 0 = .ok (.aload_n 0, 1) := by decide +kernel
theorem dX7_open_1 : decode cX7_open 1 = .ok (.iload_n 1, 1) := by decide +kernel
theorem dX7_open_2 : decode cX7_open 2 = .ok (.putfield 15, 3) := by decide +kernel
theorem dX7_open_5 : decode cX7_open 5 = .ok (.aload_n 0, 1) := by decide +kernel
theorem dX7_open_6 : decode cX7_open 6 = .ok (.iconst 0, 1) := by decide +kernel
theorem dX7_open_7 : decode cX7_open 7 = .ok (.putfield 19, 3) := by decide +kernel
theorem dX7_open_10 : decode cX7_open 10 = .ok (.aload_n 0, 1) := by decide +kernel
theorem dX7_open_11 : decode cX7_open 11 = .ok (.iconst 0, 1) := by decide +kernel
theorem dX7_open_12 : decode cX7_open 12 = .ok (.putfield 22, 3) := by decide +kernel
theorem dX7_open_15 : decode cX7_open 15 = .ok (.aload_n 0, 1) := by decide +kernel
theorem dX7_open_16 : decode cX7_open 16 = .ok (.iconst 0, 1) := by decide +kernel
theorem dX7_open_17 : decode cX7_open 17 = .ok (.putfield 25, 3) := by decide +kernel
theorem dX7_open_20 : decode cX7_open 20 = .ok (.aload_n 0, 1) := by decide +kernel
theorem dX7_open_21 : decode cX7_open 21 = .ok (.invokevirtual 28, 3) := by decide +kernel
theorem dX7_open_24 : decode cX7_open 24 = .ok (.return_, 1) := by decide +kernel
theorem dX7_step_0 : decode cX7_step 0 = .ok (.aload_n 0, 1) := by decide +kernel
theorem dX7_step_1 : decode cX7_step 1 = .ok (.getfield 19, 3) := by decide +kernel
theorem dX7_step_4 : decode cX7_step 4 = .ok (.aload_n 0, 1) := by decide +kernel
theorem dX7_step_5 : decode cX7_step 5 = .ok (.getfield 9, 3) := by decide +kernel
theorem dX7_step_8 : decode cX7_step 8 = .ok (.getfield 31, 3) := by decide +kernel
theorem dX7_step_11 : decode cX7_step 11 = .ok (.if_icmp .ge 34, 3) := by decide +kernel
theorem dX7_step_45 : decode cX7_step 45 = .ok (.aload_n 0, 1) := by decide +kernel
theorem dX7_step_46 : decode cX7_step 46 = .ok (.aload_n 0, 1) := by decide +kernel
theorem dX7_step_47 : decode cX7_step 47 = .ok (.getfield 19, 3) := by decide +kernel
theorem dX7_step_50 : decode cX7_step 50 = .ok (.putfield 44, 3) := by decide +kernel
theorem dX7_step_53 : decode cX7_step 53 = .ok (.aload_n 0, 1) := by decide +kernel
theorem dX7_step_54 : decode cX7_step 54 = .ok (.lconst 0, 1) := by decide +kernel
theorem dX7_step_55 : decode cX7_step 55 = .ok (.putfield 47, 3) := by decide +kernel
theorem dX7_step_58 : decode cX7_step 58 = .ok (.aload_n 0, 1) := by decide +kernel
theorem dX7_step_59 : decode cX7_step 59 = .ok (.iconst 0, 1) := by decide +kernel
theorem dX7_step_60 : decode cX7_step 60 = .ok (.putfield 51, 3) := by decide +kernel
theorem dX7_step_63 : decode cX7_step 63 = .ok (.aload_n 0, 1) := by decide +kernel
theorem dX7_step_64 : decode cX7_step 64 = .ok (.iconst 0, 1) := by decide +kernel
theorem dX7_step_65 : decode cX7_step 65 = .ok (.putfield 54, 3) := by decide +kernel
theorem dX7_step_68 : decode cX7_step 68 = .ok (.aload_n 0, 1) := by decide +kernel
theorem dX7_step_69 : decode cX7_step 69 = .ok (.getfield 19, 3) := by decide +kernel
theorem dX7_step_72 : decode cX7_step 72 = .ok (.aload_n 0, 1) := by decide +kernel
theorem dX7_step_73 : decode cX7_step 73 = .ok (.getfield 15, 3) := by decide +kernel
theorem dX7_step_76 : decode cX7_step 76 = .ok (.if_icmp .lt 33, 3) := by decide +kernel
theorem dX7_step_109 : decode cX7_step 109 = .ok (.aload_n 0, 1) := by decide +kernel
theorem dX7_step_110 : decode cX7_step 110 = .ok (.getfield 19, 3) := by decide +kernel
theorem dX7_step_113 : decode cX7_step 113 = .ok (.aload_n 0, 1) := by decide +kernel
theorem dX7_step_114 : decode cX7_step 114 = .ok (.getfield 9, 3) := by decide +kernel
theorem dX7_step_117 : decode cX7_step 117 = .ok (.getfield 31, 3) := by decide +kernel
theorem dX7_step_120 : decode cX7_step 120 = .ok (.if_icmp .lt 11, 3) := by decide +kernel
theorem dX7_step_123 : decode cX7_step 123 = .ok (.aload_n 0, 1) := by decide +kernel
theorem dX7_step_124 : decode cX7_step 124 = .ok (.iconst 0, 1) := by decide +kernel
theorem dX7_step_125 : decode cX7_step 125 = .ok (.putfield 57, 3) := by decide +kernel
theorem dX7_step_128 : decode cX7_step 128 = .ok (.goto 49, 3) := by decide +kernel
theorem dX7_step_177 : decode cX7_step 177 = .ok (.return_, 1) := by decide +kernel
theorem dX9_hasRoom_0 : decode cX9_hasRoom 0 = .ok (.aload_n 0, 1) := by decide +kernel
theorem dX9_hasRoom_1 : decode cX9_hasRoom 1 = .ok (.getfield 13, 3) := by decide +kernel
theorem dX9_hasRoom_4 : decode cX9_hasRoom 4 = .ok (.bipush 20, 2) := by decide +kernel
theorem dX9_hasRoom_6 : decode cX9_hasRoom 6 = .ok (.iadd, 1) := by decide +kernel
theorem dX9_hasRoom_7 : decode cX9_hasRoom 7 = .ok (.sipush 940, 3) := by decide +kernel
theorem dX9_hasRoom_10 : decode cX9_hasRoom 10 = .ok (.if_icmp .gt 7, 3) := by decide +kernel
theorem dX9_hasRoom_13 : decode cX9_hasRoom 13 = .ok (.iconst 1, 1) := by decide +kernel
theorem dX9_hasRoom_14 : decode cX9_hasRoom 14 = .ok (.goto 4, 3) := by decide +kernel
theorem dX9_hasRoom_18 : decode cX9_hasRoom 18 = .ok (.ireturn, 1) := by decide +kernel
theorem dX9_add_0 : decode cX9_add 0 = .ok (.bipush 24, 2) := by decide +kernel
theorem dX9_add_2 : decode cX9_add 2 = .ok (.istore_n 2, 1) := by decide +kernel
theorem dX9_add_3 : decode cX9_add 3 = .ok (.iload_n 2, 1) := by decide +kernel
theorem dX9_add_4 : decode cX9_add 4 = .ok (.ifCond .lt 45, 3) := by decide +kernel
theorem dX9_add_7 : decode cX9_add 7 = .ok (.aload_n 0, 1) := by decide +kernel
theorem dX9_add_8 : decode cX9_add 8 = .ok (.getfield 13, 3) := by decide +kernel
theorem dX9_add_11 : decode cX9_add 11 = .ok (.sipush 940, 3) := by decide +kernel
theorem dX9_add_14 : decode cX9_add 14 = .ok (.if_icmp .ge 35, 3) := by decide +kernel
theorem dX9_add_17 : decode cX9_add 17 = .ok (.aload_n 0, 1) := by decide +kernel
theorem dX9_add_18 : decode cX9_add 18 = .ok (.getfield 9, 3) := by decide +kernel
theorem dX9_add_21 : decode cX9_add 21 = .ok (.aload_n 0, 1) := by decide +kernel
theorem dX9_add_22 : decode cX9_add 22 = .ok (.getfield 13, 3) := by decide +kernel
theorem dX9_add_25 : decode cX9_add 25 = .ok (.iload_n 1, 1) := by decide +kernel
theorem dX9_add_26 : decode cX9_add 26 = .ok (.iload_n 2, 1) := by decide +kernel
theorem dX9_add_27 : decode cX9_add 27 = .ok (.iushr, 1) := by decide +kernel
theorem dX9_add_28 : decode cX9_add 28 = .ok (.sipush 255, 3) := by decide +kernel
theorem dX9_add_31 : decode cX9_add 31 = .ok (.iand, 1) := by decide +kernel
theorem dX9_add_32 : decode cX9_add 32 = .ok (.iastore, 1) := by decide +kernel
theorem dX9_add_33 : decode cX9_add 33 = .ok (.aload_n 0, 1) := by decide +kernel
theorem dX9_add_34 : decode cX9_add 34 = .ok (.dup, 1) := by decide +kernel
theorem dX9_add_35 : decode cX9_add 35 = .ok (.getfield 13, 3) := by decide +kernel
theorem dX9_add_38 : decode cX9_add 38 = .ok (.iconst 1, 1) := by decide +kernel
theorem dX9_add_39 : decode cX9_add 39 = .ok (.iadd, 1) := by decide +kernel
theorem dX9_add_40 : decode cX9_add 40 = .ok (.putfield 13, 3) := by decide +kernel
theorem dX9_add_43 : decode cX9_add 43 = .ok (.iinc 2 (-8), 3) := by decide +kernel
theorem dX9_add_46 : decode cX9_add 46 = .ok (.goto (-43), 3) := by decide +kernel
theorem dX9_add_49 : decode cX9_add 49 = .ok (.return_, 1) := by decide +kernel
set_option maxRecDepth 20000 in
theorem ggX11_read_X10_clear : GoodIn wsX11_read wsX10_clear := goodIn_r _ [10, 11, 12, 13, 14, 15, 16, 17, 18, 19, 20, 21, 22, 23, 24, 25, 26, 27, 28, 29, 30, 192, 193, 194, 195, 196, 197, 198, 199, 200, 201, 202, 203, 204, 205, 206, 207, 208] (by decide +kernel) (by decide +kernel)
set_option maxRecDepth 20000 in
theorem gX11_read_X10_clear : GoodIn wsX11_read (wsV RX11 15 RX10 yX10_clear wsX10_clear) := goodIn_app (goodIn_of _ (by decide +kernel)) ggX11_read_X10_clear
set_option maxRecDepth 20000 in
theorem ggX11_read_X7_open : GoodIn wsX11_read wsX7_open := goodIn_r _ [35, 36, 37, 38, 39, 40, 41, 42, 34, 43, 44, 45, 46, 47, 48, 49, 50, 51, 52, 53, 54, 55, 56, 57, 58, 59, 181, 182, 183, 184, 185, 186, 187, 188, 189, 190, 191, 209, 210] (by decide +kernel) (by decide +kernel)
set_option maxRecDepth 20000 in
theorem gX11_read_X7_open : GoodIn wsX11_read (wsV RX11 28 RX7 yX7_open wsX7_open) := goodIn_app (goodIn_of _ (by decide +kernel)) ggX11_read_X7_open
theorem dX11_read_0 : decode cX11_read 0 = .ok (.aload_n 1, 1) := by decide +kernel
theorem dX11_read_1 : decode cX11_read 1 = .ok (.invokevirtual 15, 3) := by decide +kernel
theorem dX11_read_4 : decode cX11_read 4 = .ok (.aload_n 0, 1) := by decide +kernel
theorem dX11_read_5 : decode cX11_read 5 = .ok (.iconst 0, 1) := by decide +kernel
theorem dX11_read_6 : decode cX11_read 6 = .ok (.putfield 20, 3) := by decide +kernel
theorem dX11_read_9 : decode cX11_read 9 = .ok (.aload_n 0, 1) := by decide +kernel
theorem dX11_read_10 : decode cX11_read 10 = .ok (.iconst 0, 1) := by decide +kernel
theorem dX11_read_11 : decode cX11_read 11 = .ok (.putfield 24, 3) := by decide +kernel
theorem dX11_read_14 : decode cX11_read 14 = .ok (.aload_n 0, 1) := by decide +kernel
theorem dX11_read_15 : decode cX11_read 15 = .ok (.getfield 9, 3) := by decide +kernel
theorem dX11_read_18 : decode cX11_read 18 = .ok (.sipush 900, 3) := by decide +kernel
theorem dX11_read_21 : decode cX11_read 21 = .ok (.invokevirtual 28, 3) := by decide +kernel
theorem dX11_read_24 : decode cX11_read 24 = .ok (.aload_n 0, 1) := by decide +kernel
theorem dX11_read_25 : decode cX11_read 25 = .ok (.iconst 0, 1) := by decide +kernel
theorem dX11_read_26 : decode cX11_read 26 = .ok (.putfield 34, 3) := by decide +kernel
theorem dX11_read_29 : decode cX11_read 29 = .ok (.aload_n 0, 1) := by decide +kernel
theorem dX11_read_30 : decode cX11_read 30 = .ok (.getfield 34, 3) := by decide +kernel
theorem dX11_read_33 : decode cX11_read 33 = .ok (.sipush 900, 3) := by decide +kernel
theorem dX11_read_36 : decode cX11_read 36 = .ok (.if_icmp .ge 48, 3) := by decide +kernel
theorem dX11_read_39 : decode cX11_read 39 = .ok (.aload_n 0, 1) := by decide +kernel
theorem dX11_read_40 : decode cX11_read 40 = .ok (.getfield 9, 3) := by decide +kernel
theorem dX11_read_43 : decode cX11_read 43 = .ok (.getfield 37, 3) := by decide +kernel
theorem dX11_read_46 : decode cX11_read 46 = .ok (.ifCond .eq 38, 3) := by decide +kernel
theorem dX11_read_84 : decode cX11_read 84 = .ok (.iconst 1, 1) := by decide +kernel
theorem dX11_read_85 : decode cX11_read 85 = .ok (.ireturn, 1) := by decide +kernel
theorem inX9_hasRoom_X9 : ∀ w ∈ wsX90, w ∈ wsX9_hasRoom := by decide +kernel
theorem inX9_add_X9 : ∀ w ∈ wsX90, w ∈ wsX9_add := by decide +kernel
theorem inX7_step_X7 : ∀ w ∈ wsX70, w ∈ wsX7_step := by decide +kernel
theorem inX7_step_X9 : ∀ w ∈ wsX90, w ∈ wsX7_step := by decide +kernel
theorem inX7_open_X7 : ∀ w ∈ wsX70, w ∈ wsX7_open := by decide +kernel
theorem inX11_read_X11 : ∀ w ∈ wsX110, w ∈ wsX11_read := by decide +kernel
theorem inX11_read_X7 : ∀ w ∈ wsX70, w ∈ wsX11_read := by decide +kernel
theorem inX4_read_X4 : ∀ w ∈ wsX40, w ∈ wsX4_read := by decide +kernel
theorem inX4_read_X7 : ∀ w ∈ wsX70, w ∈ wsX4_read := by decide +kernel
theorem inX4_live_X4 : ∀ w ∈ wsX40, w ∈ wsX4_live := by decide +kernel
set_option maxHeartbeats 4000000 in
set_option maxRecDepth 100000 in
theorem cE_hasRoom (l : Launch) (D : va_G) (k : Nat → ClassId) (e0 : Nat) (e1 : Nat) : g_Ci l yX9_hasRoom wsX9_hasRoom ({ frames := 0, cells := 0, slots := 0, locals := 0 }) D k g_E0 [.ref e0] [(e0, .inr (7, [.ref e1, .int 0]))] 1 (fun u => [(e0, .inr (7, [.ref e1, .int 0]))]) 0 0 := by
  intro sz
  refine Met.ofW (cc := cX9_hasRoom) (maxL := 1) (ret := (some .boolean)) (by decide) rfl ?_
  intro p e s m args below meth c s₁ B hml hv
  obtain ⟨rfl, hsz, hP, hK, hD0, hE⟩ := hv
  have hx := B.exec
  have hb := B.bytes
  have hr := B.returns
  have hts := atoms_spec (ws := wsX9_hasRoom) B.pre
  have hown : s.vm.findClass RX9 = some m.cls := findClass_of_methodNamed B.named
  have hlocks := B.notSynchronized
  subst hsz
  have hD := hD0.self (sz := s.heap.size)
  generalize hAe : va_A [(e0, .inr (7, [.ref e1, .int 0]))] s.heap.size = A at hD ⊢
  have hA : ∀ q : Nat, s.heap.size ≤ q → A q := fun q h => by rw [← hAe]; exact Or.inr h
  have hS : va_S A s.heap s.heap [] := va_S.rf
  have hP : va_P D vwCl [(e0, .inr (7, [.ref e1, .int 0]))] s.heap := hP
  have hl := lv_entry ([.ref e0]) (n := 1) (Nat.le_of_ble_eq_true rfl)
  rw [lg_entry_eq]
  generalize (lg_sl ([.ref e0]) ++ List.replicate (1 - (lg_sl ([.ref e0])).length) Slot.unset).toArray = ls at hl ⊢
  have hl : lv_has ls 1 [(0, .ref e0)] := hl
  refine lv_aload_n hx hb dX9_hasRoom_0 rfl (lv_at hl 0 rfl) ?_
  refine va_get (D := D) (ci := 7) (v := .int 0) (C := RX9) (T := TX9) (N := 2) hx hb hts inX9_hasRoom_X9 hown hK hP 0 rfl rfl 1 (by decide) (hts (.fieldLink RX9 13 "RungMoney$Tape" "size" "I") (by decide +kernel)) (fun _ h9 => h9) rfl dX9_hasRoom_1 ?_
  refine lv_bipush (v := 20) hx hb dX9_hasRoom_4 (by decide) ?_
  refine lv_iadd hx hb dX9_hasRoom_6 ?_
  refine lv_topi (fun x1 ex1 => ?_)
  obtain rfl : x1 = 20 := ex1.trans (by decide)
  refine lv_sipush (v := 940) hx hb dX9_hasRoom_7 (by decide) ?_
  refine lv_icmp_gt (tgt := 17) hx hb dX9_hasRoom_10 (by decide) (fun h9 => absurd h9 (by decide)) (fun _ => ?_)
  refine lv_iconst (v := 1) hx hb dX9_hasRoom_13 (by decide) ?_
  refine lv_goto (tgt := 18) hx hb dX9_hasRoom_14 (by decide) ?_
  have hP := hP.sub (ws' := [(e0, .inr (7, [.ref e1, .int 0]))]) [0] rfl
  have hD := hD.sub (ws' := [(e0, .inr (7, [.ref e1, .int 0]))]) [0] (by decide) rfl
  exact g_iret hx hb hr rfl hlocks hK (fun _ => 0) hP hD hS rfl dX9_hasRoom_18 ⟨Nat.le_of_ble_eq_true rfl, Nat.le_of_ble_eq_true rfl⟩
set_option maxHeartbeats 4000000 in
set_option maxRecDepth 100000 in
theorem cE_add0 (l : Launch) (D : va_G) (k : Nat → ClassId) (e0 : Nat) (e1 : Nat) (f : Nat → Int32) (p0 : Int32) : g_Cv l yX9_add wsX9_add ({ frames := 0, cells := 0, slots := 0, locals := 0 }) D k g_E0 [.ref e0, .int p0] [(e0, .inr (7, [.ref e1, .int 0])), (e1, .inl (k 0, 940, .inl f))] (fun u => [(e0, .inr (7, [.ref e1, .int 4])), (e1, .inl (k 0, 940, .inl (upd (upd (upd (upd f 0 (by8 p0 24)) 1 (by8 p0 16)) 2 (by8 p0 8)) 3 (by8 p0 0))))]) 0 0 := by
  intro sz
  refine Met.ofW (cc := cX9_add) (maxL := 3) (ret := none) (by decide) rfl ?_
  intro p e s m args below meth c s₁ B hml hv
  obtain ⟨rfl, hsz, hP, hK, hD0, hE⟩ := hv
  have hx := B.exec
  have hb := B.bytes
  have hr := B.returns
  have hts := atoms_spec (ws := wsX9_add) B.pre
  have hown : s.vm.findClass RX9 = some m.cls := findClass_of_methodNamed B.named
  have hlocks := B.notSynchronized
  subst hsz
  have hD := hD0.self (sz := s.heap.size)
  generalize hAe : va_A [(e0, .inr (7, [.ref e1, .int 0])), (e1, .inl (k 0, 940, .inl f))] s.heap.size = A at hD ⊢
  have hA : ∀ q : Nat, s.heap.size ≤ q → A q := fun q h => by rw [← hAe]; exact Or.inr h
  have hS : va_S A s.heap s.heap [] := va_S.rf
  have hP : va_P D vwCl [(e0, .inr (7, [.ref e1, .int 0])), (e1, .inl (k 0, 940, .inl f))] s.heap := hP
  have hl := lv_entry ([.ref e0, .int p0]) (n := 3) (Nat.le_of_ble_eq_true rfl)
  rw [lg_entry_eq]
  generalize (lg_sl ([.ref e0, .int p0]) ++ List.replicate (3 - (lg_sl ([.ref e0, .int p0])).length) Slot.unset).toArray = ls at hl ⊢
  have hl : lv_has ls 3 [(0, .ref e0), (1, .int p0)] := hl
  refine lv_bipush (v := 24) hx hb dX9_add_0 (by decide) ?_
  refine lv_istore_n (lv' := [(2, .int 24), (0, .ref e0), (1, .int p0)]) hx hb dX9_add_2 rfl hl (by decide) rfl (fun ls hl => ?_)
  refine lv_iload_n hx hb dX9_add_3 rfl (lv_at hl 0 rfl) ?_
  refine lv_if_lt (tgt := 49) hx hb dX9_add_4 (by decide) (fun h9 => absurd h9 (by decide)) (fun _ => ?_)
  refine lv_aload_n hx hb dX9_add_7 rfl (lv_at hl 1 rfl) ?_
  refine va_get (D := D) (ci := 7) (v := .int 0) (C := RX9) (T := TX9) (N := 2) hx hb hts inX9_add_X9 hown hK hP 0 rfl rfl 1 (by decide) (hts (.fieldLink RX9 13 "RungMoney$Tape" "size" "I") (by decide +kernel)) (fun _ h9 => h9) rfl dX9_add_8 ?_
  refine lv_sipush (v := 940) hx hb dX9_add_11 (by decide) ?_
  refine lv_icmp_ge (tgt := 49) hx hb dX9_add_14 (by decide) (fun h9 => absurd h9 (by decide)) (fun _ => ?_)
  refine lv_aload_n hx hb dX9_add_17 rfl (lv_at hl 1 rfl) ?_
  refine va_get (D := D) (ci := 7) (v := .ref e1) (C := RX9) (T := TX9) (N := 2) hx hb hts inX9_add_X9 hown hK hP 0 rfl rfl 0 (by decide) (hts (.fieldLink RX9 9 "RungMoney$Tape" "bytes" "[I") (by decide +kernel)) (fun _ h9 => h9) rfl dX9_add_18 ?_
  refine lv_aload_n hx hb dX9_add_21 rfl (lv_at hl 1 rfl) ?_
  refine va_get (D := D) (ci := 7) (v := .int 0) (C := RX9) (T := TX9) (N := 2) hx hb hts inX9_add_X9 hown hK hP 0 rfl rfl 1 (by decide) (hts (.fieldLink RX9 13 "RungMoney$Tape" "size" "I") (by decide +kernel)) (fun _ h9 => h9) rfl dX9_add_22 ?_
  refine lv_iload_n hx hb dX9_add_25 rfl (lv_at hl 2 rfl) ?_
  refine lv_iload_n hx hb dX9_add_26 rfl (lv_at hl 0 rfl) ?_
  refine lv_iushr hx hb dX9_add_27 rfl ?_
  refine lv_sipush (v := 255) hx hb dX9_add_28 (by decide) ?_
  refine lv_iand hx hb dX9_add_31 ?_
  refine lv_topi (fun x2 ex2 => ?_)
  obtain rfl : x2 = (by8 p0 24) := ex2.trans rfl
  refine va_iast hx hb hK hP hD hS 1 0 rfl rfl (by unfold vp_in; decide) dX9_add_32 (fun H locs hP hD hS => ?_)
  have hP : va_P D vwCl [(e0, .inr (7, [.ref e1, .int 0])), (e1, .inl (k 0, 940, .inl (upd f 0 (by8 p0 24))))] H := hP
  have hD : va_D A [(e0, .inr (7, [.ref e1, .int 0])), (e1, .inl (k 0, 940, .inl (upd f 0 (by8 p0 24))))] := hD
  refine lv_aload_n hx hb dX9_add_33 rfl (lv_at hl 1 rfl) ?_
  refine lv_dup hx hb dX9_add_34 rfl ?_
  refine va_get (D := D) (ci := 7) (v := .int 0) (C := RX9) (T := TX9) (N := 2) hx hb hts inX9_add_X9 hown hK hP 0 rfl rfl 1 (by decide) (hts (.fieldLink RX9 13 "RungMoney$Tape" "size" "I") (by decide +kernel)) (fun _ h9 => h9) rfl dX9_add_35 ?_
  refine lv_iconst (v := 1) hx hb dX9_add_38 (by decide) ?_
  refine lv_iadd hx hb dX9_add_39 ?_
  refine lv_topi (fun x3 ex3 => ?_)
  obtain rfl : x3 = 1 := ex3.trans (by decide)
  refine va_put (D := D) (ci := 7) (v := .int 1) (ty := .int) (C := RX9) (T := TX9) (N := 2) hx hb hts inX9_add_X9 tyX9 tyX9_ok nmX9 hown hK hP hD hS 0 rfl rfl 1 (by decide) (hts (.fieldLink RX9 13 "RungMoney$Tape" "size" "I") (by decide +kernel)) (fun _ h9 => h9) rfl (by decide +kernel) rfl rfl (Nat.le_of_ble_eq_true rfl) dX9_add_40 (fun H locs hP hD hS => ?_)
  have hP : va_P D vwCl [(e0, .inr (7, [.ref e1, .int 1])), (e1, .inl (k 0, 940, .inl (upd f 0 (by8 p0 24))))] H := hP
  have hD : va_D A [(e0, .inr (7, [.ref e1, .int 1])), (e1, .inl (k 0, 940, .inl (upd f 0 (by8 p0 24))))] := hD
  refine lv_iinc (v := 16) (lv' := [(2, .int 16), (0, .ref e0), (1, .int p0)]) hx hb dX9_add_43 hl (k := 0) rfl (by decide) (by decide) rfl (fun ls hl => ?_)
  refine lv_goto (tgt := 3) hx hb dX9_add_46 (by decide) ?_
  refine lv_iload_n hx hb dX9_add_3 rfl (lv_at hl 0 rfl) ?_
  refine lv_if_lt (tgt := 49) hx hb dX9_add_4 (by decide) (fun h9 => absurd h9 (by decide)) (fun _ => ?_)
  refine lv_aload_n hx hb dX9_add_7 rfl (lv_at hl 1 rfl) ?_
  refine va_get (D := D) (ci := 7) (v := .int 1) (C := RX9) (T := TX9) (N := 2) hx hb hts inX9_add_X9 hown hK hP 0 rfl rfl 1 (by decide) (hts (.fieldLink RX9 13 "RungMoney$Tape" "size" "I") (by decide +kernel)) (fun _ h9 => h9) rfl dX9_add_8 ?_
  refine lv_sipush (v := 940) hx hb dX9_add_11 (by decide) ?_
  refine lv_icmp_ge (tgt := 49) hx hb dX9_add_14 (by decide) (fun h9 => absurd h9 (by decide)) (fun _ => ?_)
  refine lv_aload_n hx hb dX9_add_17 rfl (lv_at hl 1 rfl) ?_
  refine va_get (D := D) (ci := 7) (v := .ref e1) (C := RX9) (T := TX9) (N := 2) hx hb hts inX9_add_X9 hown hK hP 0 rfl rfl 0 (by decide) (hts (.fieldLink RX9 9 "RungMoney$Tape" "bytes" "[I") (by decide +kernel)) (fun _ h9 => h9) rfl dX9_add_18 ?_
  refine lv_aload_n hx hb dX9_add_21 rfl (lv_at hl 1 rfl) ?_
  refine va_get (D := D) (ci := 7) (v := .int 1) (C := RX9) (T := TX9) (N := 2) hx hb hts inX9_add_X9 hown hK hP 0 rfl rfl 1 (by decide) (hts (.fieldLink RX9 13 "RungMoney$Tape" "size" "I") (by decide +kernel)) (fun _ h9 => h9) rfl dX9_add_22 ?_
  refine lv_iload_n hx hb dX9_add_25 rfl (lv_at hl 2 rfl) ?_
  refine lv_iload_n hx hb dX9_add_26 rfl (lv_at hl 0 rfl) ?_
  refine lv_iushr hx hb dX9_add_27 rfl ?_
  refine lv_sipush (v := 255) hx hb dX9_add_28 (by decide) ?_
  refine lv_iand hx hb dX9_add_31 ?_
  refine lv_topi (fun x5 ex5 => ?_)
  obtain rfl : x5 = (by8 p0 16) := ex5.trans rfl
  refine va_iast hx hb hK hP hD hS 1 0 rfl rfl (by unfold vp_in; decide) dX9_add_32 (fun H locs hP hD hS => ?_)
  have hP : va_P D vwCl [(e0, .inr (7, [.ref e1, .int 1])), (e1, .inl (k 0, 940, .inl (upd (upd f 0 (by8 p0 24)) 1 (by8 p0 16))))] H := hP
  have hD : va_D A [(e0, .inr (7, [.ref e1, .int 1])), (e1, .inl (k 0, 940, .inl (upd (upd f 0 (by8 p0 24)) 1 (by8 p0 16))))] := hD
  refine lv_aload_n hx hb dX9_add_33 rfl (lv_at hl 1 rfl) ?_
  refine lv_dup hx hb dX9_add_34 rfl ?_
  refine va_get (D := D) (ci := 7) (v := .int 1) (C := RX9) (T := TX9) (N := 2) hx hb hts inX9_add_X9 hown hK hP 0 rfl rfl 1 (by decide) (hts (.fieldLink RX9 13 "RungMoney$Tape" "size" "I") (by decide +kernel)) (fun _ h9 => h9) rfl dX9_add_35 ?_
  refine lv_iconst (v := 1) hx hb dX9_add_38 (by decide) ?_
  refine lv_iadd hx hb dX9_add_39 ?_
  refine lv_topi (fun x6 ex6 => ?_)
  obtain rfl : x6 = 2 := ex6.trans (by decide)
  refine va_put (D := D) (ci := 7) (v := .int 2) (ty := .int) (C := RX9) (T := TX9) (N := 2) hx hb hts inX9_add_X9 tyX9 tyX9_ok nmX9 hown hK hP hD hS 0 rfl rfl 1 (by decide) (hts (.fieldLink RX9 13 "RungMoney$Tape" "size" "I") (by decide +kernel)) (fun _ h9 => h9) rfl (by decide +kernel) rfl rfl (Nat.le_of_ble_eq_true rfl) dX9_add_40 (fun H locs hP hD hS => ?_)
  have hP : va_P D vwCl [(e0, .inr (7, [.ref e1, .int 2])), (e1, .inl (k 0, 940, .inl (upd (upd f 0 (by8 p0 24)) 1 (by8 p0 16))))] H := hP
  have hD : va_D A [(e0, .inr (7, [.ref e1, .int 2])), (e1, .inl (k 0, 940, .inl (upd (upd f 0 (by8 p0 24)) 1 (by8 p0 16))))] := hD
  refine lv_iinc (v := 8) (lv' := [(2, .int 8), (0, .ref e0), (1, .int p0)]) hx hb dX9_add_43 hl (k := 0) rfl (by decide) (by decide) rfl (fun ls hl => ?_)
  refine lv_goto (tgt := 3) hx hb dX9_add_46 (by decide) ?_
  refine lv_iload_n hx hb dX9_add_3 rfl (lv_at hl 0 rfl) ?_
  refine lv_if_lt (tgt := 49) hx hb dX9_add_4 (by decide) (fun h9 => absurd h9 (by decide)) (fun _ => ?_)
  refine lv_aload_n hx hb dX9_add_7 rfl (lv_at hl 1 rfl) ?_
  refine va_get (D := D) (ci := 7) (v := .int 2) (C := RX9) (T := TX9) (N := 2) hx hb hts inX9_add_X9 hown hK hP 0 rfl rfl 1 (by decide) (hts (.fieldLink RX9 13 "RungMoney$Tape" "size" "I") (by decide +kernel)) (fun _ h9 => h9) rfl dX9_add_8 ?_
  refine lv_sipush (v := 940) hx hb dX9_add_11 (by decide) ?_
  refine lv_icmp_ge (tgt := 49) hx hb dX9_add_14 (by decide) (fun h9 => absurd h9 (by decide)) (fun _ => ?_)
  refine lv_aload_n hx hb dX9_add_17 rfl (lv_at hl 1 rfl) ?_
  refine va_get (D := D) (ci := 7) (v := .ref e1) (C := RX9) (T := TX9) (N := 2) hx hb hts inX9_add_X9 hown hK hP 0 rfl rfl 0 (by decide) (hts (.fieldLink RX9 9 "RungMoney$Tape" "bytes" "[I") (by decide +kernel)) (fun _ h9 => h9) rfl dX9_add_18 ?_
  refine lv_aload_n hx hb dX9_add_21 rfl (lv_at hl 1 rfl) ?_
  refine va_get (D := D) (ci := 7) (v := .int 2) (C := RX9) (T := TX9) (N := 2) hx hb hts inX9_add_X9 hown hK hP 0 rfl rfl 1 (by decide) (hts (.fieldLink RX9 13 "RungMoney$Tape" "size" "I") (by decide +kernel)) (fun _ h9 => h9) rfl dX9_add_22 ?_
  refine lv_iload_n hx hb dX9_add_25 rfl (lv_at hl 2 rfl) ?_
  refine lv_iload_n hx hb dX9_add_26 rfl (lv_at hl 0 rfl) ?_
  refine lv_iushr hx hb dX9_add_27 rfl ?_
  refine lv_sipush (v := 255) hx hb dX9_add_28 (by decide) ?_
  refine lv_iand hx hb dX9_add_31 ?_
  refine lv_topi (fun x8 ex8 => ?_)
  obtain rfl : x8 = (by8 p0 8) := ex8.trans rfl
  refine va_iast hx hb hK hP hD hS 1 0 rfl rfl (by unfold vp_in; decide) dX9_add_32 (fun H locs hP hD hS => ?_)
  have hP : va_P D vwCl [(e0, .inr (7, [.ref e1, .int 2])), (e1, .inl (k 0, 940, .inl (upd (upd (upd f 0 (by8 p0 24)) 1 (by8 p0 16)) 2 (by8 p0 8))))] H := hP
  have hD : va_D A [(e0, .inr (7, [.ref e1, .int 2])), (e1, .inl (k 0, 940, .inl (upd (upd (upd f 0 (by8 p0 24)) 1 (by8 p0 16)) 2 (by8 p0 8))))] := hD
  refine lv_aload_n hx hb dX9_add_33 rfl (lv_at hl 1 rfl) ?_
  refine lv_dup hx hb dX9_add_34 rfl ?_
  refine va_get (D := D) (ci := 7) (v := .int 2) (C := RX9) (T := TX9) (N := 2) hx hb hts inX9_add_X9 hown hK hP 0 rfl rfl 1 (by decide) (hts (.fieldLink RX9 13 "RungMoney$Tape" "size" "I") (by decide +kernel)) (fun _ h9 => h9) rfl dX9_add_35 ?_
  refine lv_iconst (v := 1) hx hb dX9_add_38 (by decide) ?_
  refine lv_iadd hx hb dX9_add_39 ?_
  refine lv_topi (fun x9 ex9 => ?_)
  obtain rfl : x9 = 3 := ex9.trans (by decide)
  refine va_put (D := D) (ci := 7) (v := .int 3) (ty := .int) (C := RX9) (T := TX9) (N := 2) hx hb hts inX9_add_X9 tyX9 tyX9_ok nmX9 hown hK hP hD hS 0 rfl rfl 1 (by decide) (hts (.fieldLink RX9 13 "RungMoney$Tape" "size" "I") (by decide +kernel)) (fun _ h9 => h9) rfl (by decide +kernel) rfl rfl (Nat.le_of_ble_eq_true rfl) dX9_add_40 (fun H locs hP hD hS => ?_)
  have hP : va_P D vwCl [(e0, .inr (7, [.ref e1, .int 3])), (e1, .inl (k 0, 940, .inl (upd (upd (upd f 0 (by8 p0 24)) 1 (by8 p0 16)) 2 (by8 p0 8))))] H := hP
  have hD : va_D A [(e0, .inr (7, [.ref e1, .int 3])), (e1, .inl (k 0, 940, .inl (upd (upd (upd f 0 (by8 p0 24)) 1 (by8 p0 16)) 2 (by8 p0 8))))] := hD
  refine lv_iinc (v := 0) (lv' := [(2, .int 0), (0, .ref e0), (1, .int p0)]) hx hb dX9_add_43 hl (k := 0) rfl (by decide) (by decide) rfl (fun ls hl => ?_)
  refine lv_goto (tgt := 3) hx hb dX9_add_46 (by decide) ?_
  refine lv_iload_n hx hb dX9_add_3 rfl (lv_at hl 0 rfl) ?_
  refine lv_if_lt (tgt := 49) hx hb dX9_add_4 (by decide) (fun h9 => absurd h9 (by decide)) (fun _ => ?_)
  refine lv_aload_n hx hb dX9_add_7 rfl (lv_at hl 1 rfl) ?_
  refine va_get (D := D) (ci := 7) (v := .int 3) (C := RX9) (T := TX9) (N := 2) hx hb hts inX9_add_X9 hown hK hP 0 rfl rfl 1 (by decide) (hts (.fieldLink RX9 13 "RungMoney$Tape" "size" "I") (by decide +kernel)) (fun _ h9 => h9) rfl dX9_add_8 ?_
  refine lv_sipush (v := 940) hx hb dX9_add_11 (by decide) ?_
  refine lv_icmp_ge (tgt := 49) hx hb dX9_add_14 (by decide) (fun h9 => absurd h9 (by decide)) (fun _ => ?_)
  refine lv_aload_n hx hb dX9_add_17 rfl (lv_at hl 1 rfl) ?_
  refine va_get (D := D) (ci := 7) (v := .ref e1) (C := RX9) (T := TX9) (N := 2) hx hb hts inX9_add_X9 hown hK hP 0 rfl rfl 0 (by decide) (hts (.fieldLink RX9 9 "RungMoney$Tape" "bytes" "[I") (by decide +kernel)) (fun _ h9 => h9) rfl dX9_add_18 ?_
  refine lv_aload_n hx hb dX9_add_21 rfl (lv_at hl 1 rfl) ?_
  refine va_get (D := D) (ci := 7) (v := .int 3) (C := RX9) (T := TX9) (N := 2) hx hb hts inX9_add_X9 hown hK hP 0 rfl rfl 1 (by decide) (hts (.fieldLink RX9 13 "RungMoney$Tape" "size" "I") (by decide +kernel)) (fun _ h9 => h9) rfl dX9_add_22 ?_
  refine lv_iload_n hx hb dX9_add_25 rfl (lv_at hl 2 rfl) ?_
  refine lv_iload_n hx hb dX9_add_26 rfl (lv_at hl 0 rfl) ?_
  refine lv_iushr hx hb dX9_add_27 rfl ?_
  refine lv_sipush (v := 255) hx hb dX9_add_28 (by decide) ?_
  refine lv_iand hx hb dX9_add_31 ?_
  refine lv_topi (fun x11 ex11 => ?_)
  obtain rfl : x11 = (by8 p0 0) := ex11.trans rfl
  refine va_iast hx hb hK hP hD hS 1 0 rfl rfl (by unfold vp_in; decide) dX9_add_32 (fun H locs hP hD hS => ?_)
  have hP : va_P D vwCl [(e0, .inr (7, [.ref e1, .int 3])), (e1, .inl (k 0, 940, .inl (upd (upd (upd (upd f 0 (by8 p0 24)) 1 (by8 p0 16)) 2 (by8 p0 8)) 3 (by8 p0 0))))] H := hP
  have hD : va_D A [(e0, .inr (7, [.ref e1, .int 3])), (e1, .inl (k 0, 940, .inl (upd (upd (upd (upd f 0 (by8 p0 24)) 1 (by8 p0 16)) 2 (by8 p0 8)) 3 (by8 p0 0))))] := hD
  refine lv_aload_n hx hb dX9_add_33 rfl (lv_at hl 1 rfl) ?_
  refine lv_dup hx hb dX9_add_34 rfl ?_
  refine va_get (D := D) (ci := 7) (v := .int 3) (C := RX9) (T := TX9) (N := 2) hx hb hts inX9_add_X9 hown hK hP 0 rfl rfl 1 (by decide) (hts (.fieldLink RX9 13 "RungMoney$Tape" "size" "I") (by decide +kernel)) (fun _ h9 => h9) rfl dX9_add_35 ?_
  refine lv_iconst (v := 1) hx hb dX9_add_38 (by decide) ?_
  refine lv_iadd hx hb dX9_add_39 ?_
  refine lv_topi (fun x12 ex12 => ?_)
  obtain rfl : x12 = 4 := ex12.trans (by decide)
  refine va_put (D := D) (ci := 7) (v := .int 4) (ty := .int) (C := RX9) (T := TX9) (N := 2) hx hb hts inX9_add_X9 tyX9 tyX9_ok nmX9 hown hK hP hD hS 0 rfl rfl 1 (by decide) (hts (.fieldLink RX9 13 "RungMoney$Tape" "size" "I") (by decide +kernel)) (fun _ h9 => h9) rfl (by decide +kernel) rfl rfl (Nat.le_of_ble_eq_true rfl) dX9_add_40 (fun H locs hP hD hS => ?_)
  have hP : va_P D vwCl [(e0, .inr (7, [.ref e1, .int 4])), (e1, .inl (k 0, 940, .inl (upd (upd (upd (upd f 0 (by8 p0 24)) 1 (by8 p0 16)) 2 (by8 p0 8)) 3 (by8 p0 0))))] H := hP
  have hD : va_D A [(e0, .inr (7, [.ref e1, .int 4])), (e1, .inl (k 0, 940, .inl (upd (upd (upd (upd f 0 (by8 p0 24)) 1 (by8 p0 16)) 2 (by8 p0 8)) 3 (by8 p0 0))))] := hD
  refine lv_iinc (v := (-8)) (lv' := [(2, .int (-8)), (0, .ref e0), (1, .int p0)]) hx hb dX9_add_43 hl (k := 0) rfl (by decide) (by decide) rfl (fun ls hl => ?_)
  refine lv_goto (tgt := 3) hx hb dX9_add_46 (by decide) ?_
  refine lv_iload_n hx hb dX9_add_3 rfl (lv_at hl 0 rfl) ?_
  refine lv_if_lt (tgt := 49) hx hb dX9_add_4 (by decide) (fun _ => ?_) (fun h9 => absurd (by decide) h9)
  have hP := hP.sub (ws' := [(e0, .inr (7, [.ref e1, .int 4])), (e1, .inl (k 0, 940, .inl (upd (upd (upd (upd f 0 (by8 p0 24)) 1 (by8 p0 16)) 2 (by8 p0 8)) 3 (by8 p0 0))))]) [0, 1] rfl
  have hD := hD.sub (ws' := [(e0, .inr (7, [.ref e1, .int 4])), (e1, .inl (k 0, 940, .inl (upd (upd (upd (upd f 0 (by8 p0 24)) 1 (by8 p0 16)) 2 (by8 p0 8)) 3 (by8 p0 0))))]) [0, 1] (by decide) rfl
  exact g_vret hx hb hr hlocks hK (fun _ => 0) hP hD hS dX9_add_49 ⟨Nat.le_of_ble_eq_true rfl, Nat.le_of_ble_eq_true rfl⟩
set_option maxHeartbeats 4000000 in
set_option maxRecDepth 100000 in
theorem cE_add4 (l : Launch) (D : va_G) (k : Nat → ClassId) (e0 : Nat) (e1 : Nat) (f : Nat → Int32) (p0 : Int32) : g_Cv l yX9_add wsX9_add ({ frames := 0, cells := 0, slots := 0, locals := 0 }) D k g_E0 [.ref e0, .int p0] [(e0, .inr (7, [.ref e1, .int 4])), (e1, .inl (k 0, 940, .inl f))] (fun u => [(e0, .inr (7, [.ref e1, .int 8])), (e1, .inl (k 0, 940, .inl (upd (upd (upd (upd f 4 (by8 p0 24)) 5 (by8 p0 16)) 6 (by8 p0 8)) 7 (by8 p0 0))))]) 0 0 := by
  intro sz
  refine Met.ofW (cc := cX9_add) (maxL := 3) (ret := none) (by decide) rfl ?_
  intro p e s m args below meth c s₁ B hml hv
  obtain ⟨rfl, hsz, hP, hK, hD0, hE⟩ := hv
  have hx := B.exec
  have hb := B.bytes
  have hr := B.returns
  have hts := atoms_spec (ws := wsX9_add) B.pre
  have hown : s.vm.findClass RX9 = some m.cls := findClass_of_methodNamed B.named
  have hlocks := B.notSynchronized
  subst hsz
  have hD := hD0.self (sz := s.heap.size)
  generalize hAe : va_A [(e0, .inr (7, [.ref e1, .int 4])), (e1, .inl (k 0, 940, .inl f))] s.heap.size = A at hD ⊢
  have hA : ∀ q : Nat, s.heap.size ≤ q → A q := fun q h => by rw [← hAe]; exact Or.inr h
  have hS : va_S A s.heap s.heap [] := va_S.rf
  have hP : va_P D vwCl [(e0, .inr (7, [.ref e1, .int 4])), (e1, .inl (k 0, 940, .inl f))] s.heap := hP
  have hl := lv_entry ([.ref e0, .int p0]) (n := 3) (Nat.le_of_ble_eq_true rfl)
  rw [lg_entry_eq]
  generalize (lg_sl ([.ref e0, .int p0]) ++ List.replicate (3 - (lg_sl ([.ref e0, .int p0])).length) Slot.unset).toArray = ls at hl ⊢
  have hl : lv_has ls 3 [(0, .ref e0), (1, .int p0)] := hl
  refine lv_bipush (v := 24) hx hb dX9_add_0 (by decide) ?_
  refine lv_istore_n (lv' := [(2, .int 24), (0, .ref e0), (1, .int p0)]) hx hb dX9_add_2 rfl hl (by decide) rfl (fun ls hl => ?_)
  refine lv_iload_n hx hb dX9_add_3 rfl (lv_at hl 0 rfl) ?_
  refine lv_if_lt (tgt := 49) hx hb dX9_add_4 (by decide) (fun h9 => absurd h9 (by decide)) (fun _ => ?_)
  refine lv_aload_n hx hb dX9_add_7 rfl (lv_at hl 1 rfl) ?_
  refine va_get (D := D) (ci := 7) (v := .int 4) (C := RX9) (T := TX9) (N := 2) hx hb hts inX9_add_X9 hown hK hP 0 rfl rfl 1 (by decide) (hts (.fieldLink RX9 13 "RungMoney$Tape" "size" "I") (by decide +kernel)) (fun _ h9 => h9) rfl dX9_add_8 ?_
  refine lv_sipush (v := 940) hx hb dX9_add_11 (by decide) ?_
  refine lv_icmp_ge (tgt := 49) hx hb dX9_add_14 (by decide) (fun h9 => absurd h9 (by decide)) (fun _ => ?_)
  refine lv_aload_n hx hb dX9_add_17 rfl (lv_at hl 1 rfl) ?_
  refine va_get (D := D) (ci := 7) (v := .ref e1) (C := RX9) (T := TX9) (N := 2) hx hb hts inX9_add_X9 hown hK hP 0 rfl rfl 0 (by decide) (hts (.fieldLink RX9 9 "RungMoney$Tape" "bytes" "[I") (by decide +kernel)) (fun _ h9 => h9) rfl dX9_add_18 ?_
  refine lv_aload_n hx hb dX9_add_21 rfl (lv_at hl 1 rfl) ?_
  refine va_get (D := D) (ci := 7) (v := .int 4) (C := RX9) (T := TX9) (N := 2) hx hb hts inX9_add_X9 hown hK hP 0 rfl rfl 1 (by decide) (hts (.fieldLink RX9 13 "RungMoney$Tape" "size" "I") (by decide +kernel)) (fun _ h9 => h9) rfl dX9_add_22 ?_
  refine lv_iload_n hx hb dX9_add_25 rfl (lv_at hl 2 rfl) ?_
  refine lv_iload_n hx hb dX9_add_26 rfl (lv_at hl 0 rfl) ?_
  refine lv_iushr hx hb dX9_add_27 rfl ?_
  refine lv_sipush (v := 255) hx hb dX9_add_28 (by decide) ?_
  refine lv_iand hx hb dX9_add_31 ?_
  refine lv_topi (fun x2 ex2 => ?_)
  obtain rfl : x2 = (by8 p0 24) := ex2.trans rfl
  refine va_iast hx hb hK hP hD hS 1 0 rfl rfl (by unfold vp_in; decide) dX9_add_32 (fun H locs hP hD hS => ?_)
  have hP : va_P D vwCl [(e0, .inr (7, [.ref e1, .int 4])), (e1, .inl (k 0, 940, .inl (upd f 4 (by8 p0 24))))] H := hP
  have hD : va_D A [(e0, .inr (7, [.ref e1, .int 4])), (e1, .inl (k 0, 940, .inl (upd f 4 (by8 p0 24))))] := hD
  refine lv_aload_n hx hb dX9_add_33 rfl (lv_at hl 1 rfl) ?_
  refine lv_dup hx hb dX9_add_34 rfl ?_
  refine va_get (D := D) (ci := 7) (v := .int 4) (C := RX9) (T := TX9) (N := 2) hx hb hts inX9_add_X9 hown hK hP 0 rfl rfl 1 (by decide) (hts (.fieldLink RX9 13 "RungMoney$Tape" "size" "I") (by decide +kernel)) (fun _ h9 => h9) rfl dX9_add_35 ?_
  refine lv_iconst (v := 1) hx hb dX9_add_38 (by decide) ?_
  refine lv_iadd hx hb dX9_add_39 ?_
  refine lv_topi (fun x3 ex3 => ?_)
  obtain rfl : x3 = 5 := ex3.trans (by decide)
  refine va_put (D := D) (ci := 7) (v := .int 5) (ty := .int) (C := RX9) (T := TX9) (N := 2) hx hb hts inX9_add_X9 tyX9 tyX9_ok nmX9 hown hK hP hD hS 0 rfl rfl 1 (by decide) (hts (.fieldLink RX9 13 "RungMoney$Tape" "size" "I") (by decide +kernel)) (fun _ h9 => h9) rfl (by decide +kernel) rfl rfl (Nat.le_of_ble_eq_true rfl) dX9_add_40 (fun H locs hP hD hS => ?_)
  have hP : va_P D vwCl [(e0, .inr (7, [.ref e1, .int 5])), (e1, .inl (k 0, 940, .inl (upd f 4 (by8 p0 24))))] H := hP
  have hD : va_D A [(e0, .inr (7, [.ref e1, .int 5])), (e1, .inl (k 0, 940, .inl (upd f 4 (by8 p0 24))))] := hD
  refine lv_iinc (v := 16) (lv' := [(2, .int 16), (0, .ref e0), (1, .int p0)]) hx hb dX9_add_43 hl (k := 0) rfl (by decide) (by decide) rfl (fun ls hl => ?_)
  refine lv_goto (tgt := 3) hx hb dX9_add_46 (by decide) ?_
  refine lv_iload_n hx hb dX9_add_3 rfl (lv_at hl 0 rfl) ?_
  refine lv_if_lt (tgt := 49) hx hb dX9_add_4 (by decide) (fun h9 => absurd h9 (by decide)) (fun _ => ?_)
  refine lv_aload_n hx hb dX9_add_7 rfl (lv_at hl 1 rfl) ?_
  refine va_get (D := D) (ci := 7) (v := .int 5) (C := RX9) (T := TX9) (N := 2) hx hb hts inX9_add_X9 hown hK hP 0 rfl rfl 1 (by decide) (hts (.fieldLink RX9 13 "RungMoney$Tape" "size" "I") (by decide +kernel)) (fun _ h9 => h9) rfl dX9_add_8 ?_
  refine lv_sipush (v := 940) hx hb dX9_add_11 (by decide) ?_
  refine lv_icmp_ge (tgt := 49) hx hb dX9_add_14 (by decide) (fun h9 => absurd h9 (by decide)) (fun _ => ?_)
  refine lv_aload_n hx hb dX9_add_17 rfl (lv_at hl 1 rfl) ?_
  refine va_get (D := D) (ci := 7) (v := .ref e1) (C := RX9) (T := TX9) (N := 2) hx hb hts inX9_add_X9 hown hK hP 0 rfl rfl 0 (by decide) (hts (.fieldLink RX9 9 "RungMoney$Tape" "bytes" "[I") (by decide +kernel)) (fun _ h9 => h9) rfl dX9_add_18 ?_
  refine lv_aload_n hx hb dX9_add_21 rfl (lv_at hl 1 rfl) ?_
  refine va_get (D := D) (ci := 7) (v := .int 5) (C := RX9) (T := TX9) (N := 2) hx hb hts inX9_add_X9 hown hK hP 0 rfl rfl 1 (by decide) (hts (.fieldLink RX9 13 "RungMoney$Tape" "size" "I") (by decide +kernel)) (fun _ h9 => h9) rfl dX9_add_22 ?_
  refine lv_iload_n hx hb dX9_add_25 rfl (lv_at hl 2 rfl) ?_
  refine lv_iload_n hx hb dX9_add_26 rfl (lv_at hl 0 rfl) ?_
  refine lv_iushr hx hb dX9_add_27 rfl ?_
  refine lv_sipush (v := 255) hx hb dX9_add_28 (by decide) ?_
  refine lv_iand hx hb dX9_add_31 ?_
  refine lv_topi (fun x5 ex5 => ?_)
  obtain rfl : x5 = (by8 p0 16) := ex5.trans rfl
  refine va_iast hx hb hK hP hD hS 1 0 rfl rfl (by unfold vp_in; decide) dX9_add_32 (fun H locs hP hD hS => ?_)
  have hP : va_P D vwCl [(e0, .inr (7, [.ref e1, .int 5])), (e1, .inl (k 0, 940, .inl (upd (upd f 4 (by8 p0 24)) 5 (by8 p0 16))))] H := hP
  have hD : va_D A [(e0, .inr (7, [.ref e1, .int 5])), (e1, .inl (k 0, 940, .inl (upd (upd f 4 (by8 p0 24)) 5 (by8 p0 16))))] := hD
  refine lv_aload_n hx hb dX9_add_33 rfl (lv_at hl 1 rfl) ?_
  refine lv_dup hx hb dX9_add_34 rfl ?_
  refine va_get (D := D) (ci := 7) (v := .int 5) (C := RX9) (T := TX9) (N := 2) hx hb hts inX9_add_X9 hown hK hP 0 rfl rfl 1 (by decide) (hts (.fieldLink RX9 13 "RungMoney$Tape" "size" "I") (by decide +kernel)) (fun _ h9 => h9) rfl dX9_add_35 ?_
  refine lv_iconst (v := 1) hx hb dX9_add_38 (by decide) ?_
  refine lv_iadd hx hb dX9_add_39 ?_
  refine lv_topi (fun x6 ex6 => ?_)
  obtain rfl : x6 = 6 := ex6.trans (by decide)
  refine va_put (D := D) (ci := 7) (v := .int 6) (ty := .int) (C := RX9) (T := TX9) (N := 2) hx hb hts inX9_add_X9 tyX9 tyX9_ok nmX9 hown hK hP hD hS 0 rfl rfl 1 (by decide) (hts (.fieldLink RX9 13 "RungMoney$Tape" "size" "I") (by decide +kernel)) (fun _ h9 => h9) rfl (by decide +kernel) rfl rfl (Nat.le_of_ble_eq_true rfl) dX9_add_40 (fun H locs hP hD hS => ?_)
  have hP : va_P D vwCl [(e0, .inr (7, [.ref e1, .int 6])), (e1, .inl (k 0, 940, .inl (upd (upd f 4 (by8 p0 24)) 5 (by8 p0 16))))] H := hP
  have hD : va_D A [(e0, .inr (7, [.ref e1, .int 6])), (e1, .inl (k 0, 940, .inl (upd (upd f 4 (by8 p0 24)) 5 (by8 p0 16))))] := hD
  refine lv_iinc (v := 8) (lv' := [(2, .int 8), (0, .ref e0), (1, .int p0)]) hx hb dX9_add_43 hl (k := 0) rfl (by decide) (by decide) rfl (fun ls hl => ?_)
  refine lv_goto (tgt := 3) hx hb dX9_add_46 (by decide) ?_
  refine lv_iload_n hx hb dX9_add_3 rfl (lv_at hl 0 rfl) ?_
  refine lv_if_lt (tgt := 49) hx hb dX9_add_4 (by decide) (fun h9 => absurd h9 (by decide)) (fun _ => ?_)
  refine lv_aload_n hx hb dX9_add_7 rfl (lv_at hl 1 rfl) ?_
  refine va_get (D := D) (ci := 7) (v := .int 6) (C := RX9) (T := TX9) (N := 2) hx hb hts inX9_add_X9 hown hK hP 0 rfl rfl 1 (by decide) (hts (.fieldLink RX9 13 "RungMoney$Tape" "size" "I") (by decide +kernel)) (fun _ h9 => h9) rfl dX9_add_8 ?_
  refine lv_sipush (v := 940) hx hb dX9_add_11 (by decide) ?_
  refine lv_icmp_ge (tgt := 49) hx hb dX9_add_14 (by decide) (fun h9 => absurd h9 (by decide)) (fun _ => ?_)
  refine lv_aload_n hx hb dX9_add_17 rfl (lv_at hl 1 rfl) ?_
  refine va_get (D := D) (ci := 7) (v := .ref e1) (C := RX9) (T := TX9) (N := 2) hx hb hts inX9_add_X9 hown hK hP 0 rfl rfl 0 (by decide) (hts (.fieldLink RX9 9 "RungMoney$Tape" "bytes" "[I") (by decide +kernel)) (fun _ h9 => h9) rfl dX9_add_18 ?_
  refine lv_aload_n hx hb dX9_add_21 rfl (lv_at hl 1 rfl) ?_
  refine va_get (D := D) (ci := 7) (v := .int 6) (C := RX9) (T := TX9) (N := 2) hx hb hts inX9_add_X9 hown hK hP 0 rfl rfl 1 (by decide) (hts (.fieldLink RX9 13 "RungMoney$Tape" "size" "I") (by decide +kernel)) (fun _ h9 => h9) rfl dX9_add_22 ?_
  refine lv_iload_n hx hb dX9_add_25 rfl (lv_at hl 2 rfl) ?_
  refine lv_iload_n hx hb dX9_add_26 rfl (lv_at hl 0 rfl) ?_
  refine lv_iushr hx hb dX9_add_27 rfl ?_
  refine lv_sipush (v := 255) hx hb dX9_add_28 (by decide) ?_
  refine lv_iand hx hb dX9_add_31 ?_
  refine lv_topi (fun x8 ex8 => ?_)
  obtain rfl : x8 = (by8 p0 8) := ex8.trans rfl
  refine va_iast hx hb hK hP hD hS 1 0 rfl rfl (by unfold vp_in; decide) dX9_add_32 (fun H locs hP hD hS => ?_)
  have hP : va_P D vwCl [(e0, .inr (7, [.ref e1, .int 6])), (e1, .inl (k 0, 940, .inl (upd (upd (upd f 4 (by8 p0 24)) 5 (by8 p0 16)) 6 (by8 p0 8))))] H := hP
  have hD : va_D A [(e0, .inr (7, [.ref e1, .int 6])), (e1, .inl (k 0, 940, .inl (upd (upd (upd f 4 (by8 p0 24)) 5 (by8 p0 16)) 6 (by8 p0 8))))] := hD
  refine lv_aload_n hx hb dX9_add_33 rfl (lv_at hl 1 rfl) ?_
  refine lv_dup hx hb dX9_add_34 rfl ?_
  refine va_get (D := D) (ci := 7) (v := .int 6) (C := RX9) (T := TX9) (N := 2) hx hb hts inX9_add_X9 hown hK hP 0 rfl rfl 1 (by decide) (hts (.fieldLink RX9 13 "RungMoney$Tape" "size" "I") (by decide +kernel)) (fun _ h9 => h9) rfl dX9_add_35 ?_
  refine lv_iconst (v := 1) hx hb dX9_add_38 (by decide) ?_
  refine lv_iadd hx hb dX9_add_39 ?_
  refine lv_topi (fun x9 ex9 => ?_)
  obtain rfl : x9 = 7 := ex9.trans (by decide)
  refine va_put (D := D) (ci := 7) (v := .int 7) (ty := .int) (C := RX9) (T := TX9) (N := 2) hx hb hts inX9_add_X9 tyX9 tyX9_ok nmX9 hown hK hP hD hS 0 rfl rfl 1 (by decide) (hts (.fieldLink RX9 13 "RungMoney$Tape" "size" "I") (by decide +kernel)) (fun _ h9 => h9) rfl (by decide +kernel) rfl rfl (Nat.le_of_ble_eq_true rfl) dX9_add_40 (fun H locs hP hD hS => ?_)
  have hP : va_P D vwCl [(e0, .inr (7, [.ref e1, .int 7])), (e1, .inl (k 0, 940, .inl (upd (upd (upd f 4 (by8 p0 24)) 5 (by8 p0 16)) 6 (by8 p0 8))))] H := hP
  have hD : va_D A [(e0, .inr (7, [.ref e1, .int 7])), (e1, .inl (k 0, 940, .inl (upd (upd (upd f 4 (by8 p0 24)) 5 (by8 p0 16)) 6 (by8 p0 8))))] := hD
  refine lv_iinc (v := 0) (lv' := [(2, .int 0), (0, .ref e0), (1, .int p0)]) hx hb dX9_add_43 hl (k := 0) rfl (by decide) (by decide) rfl (fun ls hl => ?_)
  refine lv_goto (tgt := 3) hx hb dX9_add_46 (by decide) ?_
  refine lv_iload_n hx hb dX9_add_3 rfl (lv_at hl 0 rfl) ?_
  refine lv_if_lt (tgt := 49) hx hb dX9_add_4 (by decide) (fun h9 => absurd h9 (by decide)) (fun _ => ?_)
  refine lv_aload_n hx hb dX9_add_7 rfl (lv_at hl 1 rfl) ?_
  refine va_get (D := D) (ci := 7) (v := .int 7) (C := RX9) (T := TX9) (N := 2) hx hb hts inX9_add_X9 hown hK hP 0 rfl rfl 1 (by decide) (hts (.fieldLink RX9 13 "RungMoney$Tape" "size" "I") (by decide +kernel)) (fun _ h9 => h9) rfl dX9_add_8 ?_
  refine lv_sipush (v := 940) hx hb dX9_add_11 (by decide) ?_
  refine lv_icmp_ge (tgt := 49) hx hb dX9_add_14 (by decide) (fun h9 => absurd h9 (by decide)) (fun _ => ?_)
  refine lv_aload_n hx hb dX9_add_17 rfl (lv_at hl 1 rfl) ?_
  refine va_get (D := D) (ci := 7) (v := .ref e1) (C := RX9) (T := TX9) (N := 2) hx hb hts inX9_add_X9 hown hK hP 0 rfl rfl 0 (by decide) (hts (.fieldLink RX9 9 "RungMoney$Tape" "bytes" "[I") (by decide +kernel)) (fun _ h9 => h9) rfl dX9_add_18 ?_
  refine lv_aload_n hx hb dX9_add_21 rfl (lv_at hl 1 rfl) ?_
  refine va_get (D := D) (ci := 7) (v := .int 7) (C := RX9) (T := TX9) (N := 2) hx hb hts inX9_add_X9 hown hK hP 0 rfl rfl 1 (by decide) (hts (.fieldLink RX9 13 "RungMoney$Tape" "size" "I") (by decide +kernel)) (fun _ h9 => h9) rfl dX9_add_22 ?_
  refine lv_iload_n hx hb dX9_add_25 rfl (lv_at hl 2 rfl) ?_
  refine lv_iload_n hx hb dX9_add_26 rfl (lv_at hl 0 rfl) ?_
  refine lv_iushr hx hb dX9_add_27 rfl ?_
  refine lv_sipush (v := 255) hx hb dX9_add_28 (by decide) ?_
  refine lv_iand hx hb dX9_add_31 ?_
  refine lv_topi (fun x11 ex11 => ?_)
  obtain rfl : x11 = (by8 p0 0) := ex11.trans rfl
  refine va_iast hx hb hK hP hD hS 1 0 rfl rfl (by unfold vp_in; decide) dX9_add_32 (fun H locs hP hD hS => ?_)
  have hP : va_P D vwCl [(e0, .inr (7, [.ref e1, .int 7])), (e1, .inl (k 0, 940, .inl (upd (upd (upd (upd f 4 (by8 p0 24)) 5 (by8 p0 16)) 6 (by8 p0 8)) 7 (by8 p0 0))))] H := hP
  have hD : va_D A [(e0, .inr (7, [.ref e1, .int 7])), (e1, .inl (k 0, 940, .inl (upd (upd (upd (upd f 4 (by8 p0 24)) 5 (by8 p0 16)) 6 (by8 p0 8)) 7 (by8 p0 0))))] := hD
  refine lv_aload_n hx hb dX9_add_33 rfl (lv_at hl 1 rfl) ?_
  refine lv_dup hx hb dX9_add_34 rfl ?_
  refine va_get (D := D) (ci := 7) (v := .int 7) (C := RX9) (T := TX9) (N := 2) hx hb hts inX9_add_X9 hown hK hP 0 rfl rfl 1 (by decide) (hts (.fieldLink RX9 13 "RungMoney$Tape" "size" "I") (by decide +kernel)) (fun _ h9 => h9) rfl dX9_add_35 ?_
  refine lv_iconst (v := 1) hx hb dX9_add_38 (by decide) ?_
  refine lv_iadd hx hb dX9_add_39 ?_
  refine lv_topi (fun x12 ex12 => ?_)
  obtain rfl : x12 = 8 := ex12.trans (by decide)
  refine va_put (D := D) (ci := 7) (v := .int 8) (ty := .int) (C := RX9) (T := TX9) (N := 2) hx hb hts inX9_add_X9 tyX9 tyX9_ok nmX9 hown hK hP hD hS 0 rfl rfl 1 (by decide) (hts (.fieldLink RX9 13 "RungMoney$Tape" "size" "I") (by decide +kernel)) (fun _ h9 => h9) rfl (by decide +kernel) rfl rfl (Nat.le_of_ble_eq_true rfl) dX9_add_40 (fun H locs hP hD hS => ?_)
  have hP : va_P D vwCl [(e0, .inr (7, [.ref e1, .int 8])), (e1, .inl (k 0, 940, .inl (upd (upd (upd (upd f 4 (by8 p0 24)) 5 (by8 p0 16)) 6 (by8 p0 8)) 7 (by8 p0 0))))] H := hP
  have hD : va_D A [(e0, .inr (7, [.ref e1, .int 8])), (e1, .inl (k 0, 940, .inl (upd (upd (upd (upd f 4 (by8 p0 24)) 5 (by8 p0 16)) 6 (by8 p0 8)) 7 (by8 p0 0))))] := hD
  refine lv_iinc (v := (-8)) (lv' := [(2, .int (-8)), (0, .ref e0), (1, .int p0)]) hx hb dX9_add_43 hl (k := 0) rfl (by decide) (by decide) rfl (fun ls hl => ?_)
  refine lv_goto (tgt := 3) hx hb dX9_add_46 (by decide) ?_
  refine lv_iload_n hx hb dX9_add_3 rfl (lv_at hl 0 rfl) ?_
  refine lv_if_lt (tgt := 49) hx hb dX9_add_4 (by decide) (fun _ => ?_) (fun h9 => absurd (by decide) h9)
  have hP := hP.sub (ws' := [(e0, .inr (7, [.ref e1, .int 8])), (e1, .inl (k 0, 940, .inl (upd (upd (upd (upd f 4 (by8 p0 24)) 5 (by8 p0 16)) 6 (by8 p0 8)) 7 (by8 p0 0))))]) [0, 1] rfl
  have hD := hD.sub (ws' := [(e0, .inr (7, [.ref e1, .int 8])), (e1, .inl (k 0, 940, .inl (upd (upd (upd (upd f 4 (by8 p0 24)) 5 (by8 p0 16)) 6 (by8 p0 8)) 7 (by8 p0 0))))]) [0, 1] (by decide) rfl
  exact g_vret hx hb hr hlocks hK (fun _ => 0) hP hD hS dX9_add_49 ⟨Nat.le_of_ble_eq_true rfl, Nat.le_of_ble_eq_true rfl⟩
set_option maxHeartbeats 4000000 in
set_option maxRecDepth 100000 in
theorem cE_add8 (l : Launch) (D : va_G) (k : Nat → ClassId) (e0 : Nat) (e1 : Nat) (f : Nat → Int32) (p0 : Int32) : g_Cv l yX9_add wsX9_add ({ frames := 0, cells := 0, slots := 0, locals := 0 }) D k g_E0 [.ref e0, .int p0] [(e0, .inr (7, [.ref e1, .int 8])), (e1, .inl (k 0, 940, .inl f))] (fun u => [(e0, .inr (7, [.ref e1, .int 12])), (e1, .inl (k 0, 940, .inl (upd (upd (upd (upd f 8 (by8 p0 24)) 9 (by8 p0 16)) 10 (by8 p0 8)) 11 (by8 p0 0))))]) 0 0 := by
  intro sz
  refine Met.ofW (cc := cX9_add) (maxL := 3) (ret := none) (by decide) rfl ?_
  intro p e s m args below meth c s₁ B hml hv
  obtain ⟨rfl, hsz, hP, hK, hD0, hE⟩ := hv
  have hx := B.exec
  have hb := B.bytes
  have hr := B.returns
  have hts := atoms_spec (ws := wsX9_add) B.pre
  have hown : s.vm.findClass RX9 = some m.cls := findClass_of_methodNamed B.named
  have hlocks := B.notSynchronized
  subst hsz
  have hD := hD0.self (sz := s.heap.size)
  generalize hAe : va_A [(e0, .inr (7, [.ref e1, .int 8])), (e1, .inl (k 0, 940, .inl f))] s.heap.size = A at hD ⊢
  have hA : ∀ q : Nat, s.heap.size ≤ q → A q := fun q h => by rw [← hAe]; exact Or.inr h
  have hS : va_S A s.heap s.heap [] := va_S.rf
  have hP : va_P D vwCl [(e0, .inr (7, [.ref e1, .int 8])), (e1, .inl (k 0, 940, .inl f))] s.heap := hP
  have hl := lv_entry ([.ref e0, .int p0]) (n := 3) (Nat.le_of_ble_eq_true rfl)
  rw [lg_entry_eq]
  generalize (lg_sl ([.ref e0, .int p0]) ++ List.replicate (3 - (lg_sl ([.ref e0, .int p0])).length) Slot.unset).toArray = ls at hl ⊢
  have hl : lv_has ls 3 [(0, .ref e0), (1, .int p0)] := hl
  refine lv_bipush (v := 24) hx hb dX9_add_0 (by decide) ?_
  refine lv_istore_n (lv' := [(2, .int 24), (0, .ref e0), (1, .int p0)]) hx hb dX9_add_2 rfl hl (by decide) rfl (fun ls hl => ?_)
  refine lv_iload_n hx hb dX9_add_3 rfl (lv_at hl 0 rfl) ?_
  refine lv_if_lt (tgt := 49) hx hb dX9_add_4 (by decide) (fun h9 => absurd h9 (by decide)) (fun _ => ?_)
  refine lv_aload_n hx hb dX9_add_7 rfl (lv_at hl 1 rfl) ?_
  refine va_get (D := D) (ci := 7) (v := .int 8) (C := RX9) (T := TX9) (N := 2) hx hb hts inX9_add_X9 hown hK hP 0 rfl rfl 1 (by decide) (hts (.fieldLink RX9 13 "RungMoney$Tape" "size" "I") (by decide +kernel)) (fun _ h9 => h9) rfl dX9_add_8 ?_
  refine lv_sipush (v := 940) hx hb dX9_add_11 (by decide) ?_
  refine lv_icmp_ge (tgt := 49) hx hb dX9_add_14 (by decide) (fun h9 => absurd h9 (by decide)) (fun _ => ?_)
  refine lv_aload_n hx hb dX9_add_17 rfl (lv_at hl 1 rfl) ?_
  refine va_get (D := D) (ci := 7) (v := .ref e1) (C := RX9) (T := TX9) (N := 2) hx hb hts inX9_add_X9 hown hK hP 0 rfl rfl 0 (by decide) (hts (.fieldLink RX9 9 "RungMoney$Tape" "bytes" "[I") (by decide +kernel)) (fun _ h9 => h9) rfl dX9_add_18 ?_
  refine lv_aload_n hx hb dX9_add_21 rfl (lv_at hl 1 rfl) ?_
  refine va_get (D := D) (ci := 7) (v := .int 8) (C := RX9) (T := TX9) (N := 2) hx hb hts inX9_add_X9 hown hK hP 0 rfl rfl 1 (by decide) (hts (.fieldLink RX9 13 "RungMoney$Tape" "size" "I") (by decide +kernel)) (fun _ h9 => h9) rfl dX9_add_22 ?_
  refine lv_iload_n hx hb dX9_add_25 rfl (lv_at hl 2 rfl) ?_
  refine lv_iload_n hx hb dX9_add_26 rfl (lv_at hl 0 rfl) ?_
  refine lv_iushr hx hb dX9_add_27 rfl ?_
  refine lv_sipush (v := 255) hx hb dX9_add_28 (by decide) ?_
  refine lv_iand hx hb dX9_add_31 ?_
  refine lv_topi (fun x2 ex2 => ?_)
  obtain rfl : x2 = (by8 p0 24) := ex2.trans rfl
  refine va_iast hx hb hK hP hD hS 1 0 rfl rfl (by unfold vp_in; decide) dX9_add_32 (fun H locs hP hD hS => ?_)
  have hP : va_P D vwCl [(e0, .inr (7, [.ref e1, .int 8])), (e1, .inl (k 0, 940, .inl (upd f 8 (by8 p0 24))))] H := hP
  have hD : va_D A [(e0, .inr (7, [.ref e1, .int 8])), (e1, .inl (k 0, 940, .inl (upd f 8 (by8 p0 24))))] := hD
  refine lv_aload_n hx hb dX9_add_33 rfl (lv_at hl 1 rfl) ?_
  refine lv_dup hx hb dX9_add_34 rfl ?_
  refine va_get (D := D) (ci := 7) (v := .int 8) (C := RX9) (T := TX9) (N := 2) hx hb hts inX9_add_X9 hown hK hP 0 rfl rfl 1 (by decide) (hts (.fieldLink RX9 13 "RungMoney$Tape" "size" "I") (by decide +kernel)) (fun _ h9 => h9) rfl dX9_add_35 ?_
  refine lv_iconst (v := 1) hx hb dX9_add_38 (by decide) ?_
  refine lv_iadd hx hb dX9_add_39 ?_
  refine lv_topi (fun x3 ex3 => ?_)
  obtain rfl : x3 = 9 := ex3.trans (by decide)
  refine va_put (D := D) (ci := 7) (v := .int 9) (ty := .int) (C := RX9) (T := TX9) (N := 2) hx hb hts inX9_add_X9 tyX9 tyX9_ok nmX9 hown hK hP hD hS 0 rfl rfl 1 (by decide) (hts (.fieldLink RX9 13 "RungMoney$Tape" "size" "I") (by decide +kernel)) (fun _ h9 => h9) rfl (by decide +kernel) rfl rfl (Nat.le_of_ble_eq_true rfl) dX9_add_40 (fun H locs hP hD hS => ?_)
  have hP : va_P D vwCl [(e0, .inr (7, [.ref e1, .int 9])), (e1, .inl (k 0, 940, .inl (upd f 8 (by8 p0 24))))] H := hP
  have hD : va_D A [(e0, .inr (7, [.ref e1, .int 9])), (e1, .inl (k 0, 940, .inl (upd f 8 (by8 p0 24))))] := hD
  refine lv_iinc (v := 16) (lv' := [(2, .int 16), (0, .ref e0), (1, .int p0)]) hx hb dX9_add_43 hl (k := 0) rfl (by decide) (by decide) rfl (fun ls hl => ?_)
  refine lv_goto (tgt := 3) hx hb dX9_add_46 (by decide) ?_
  refine lv_iload_n hx hb dX9_add_3 rfl (lv_at hl 0 rfl) ?_
  refine lv_if_lt (tgt := 49) hx hb dX9_add_4 (by decide) (fun h9 => absurd h9 (by decide)) (fun _ => ?_)
  refine lv_aload_n hx hb dX9_add_7 rfl (lv_at hl 1 rfl) ?_
  refine va_get (D := D) (ci := 7) (v := .int 9) (C := RX9) (T := TX9) (N := 2) hx hb hts inX9_add_X9 hown hK hP 0 rfl rfl 1 (by decide) (hts (.fieldLink RX9 13 "RungMoney$Tape" "size" "I") (by decide +kernel)) (fun _ h9 => h9) rfl dX9_add_8 ?_
  refine lv_sipush (v := 940) hx hb dX9_add_11 (by decide) ?_
  refine lv_icmp_ge (tgt := 49) hx hb dX9_add_14 (by decide) (fun h9 => absurd h9 (by decide)) (fun _ => ?_)
  refine lv_aload_n hx hb dX9_add_17 rfl (lv_at hl 1 rfl) ?_
  refine va_get (D := D) (ci := 7) (v := .ref e1) (C := RX9) (T := TX9) (N := 2) hx hb hts inX9_add_X9 hown hK hP 0 rfl rfl 0 (by decide) (hts (.fieldLink RX9 9 "RungMoney$Tape" "bytes" "[I") (by decide +kernel)) (fun _ h9 => h9) rfl dX9_add_18 ?_
  refine lv_aload_n hx hb dX9_add_21 rfl (lv_at hl 1 rfl) ?_
  refine va_get (D := D) (ci := 7) (v := .int 9) (C := RX9) (T := TX9) (N := 2) hx hb hts inX9_add_X9 hown hK hP 0 rfl rfl 1 (by decide) (hts (.fieldLink RX9 13 "RungMoney$Tape" "size" "I") (by decide +kernel)) (fun _ h9 => h9) rfl dX9_add_22 ?_
  refine lv_iload_n hx hb dX9_add_25 rfl (lv_at hl 2 rfl) ?_
  refine lv_iload_n hx hb dX9_add_26 rfl (lv_at hl 0 rfl) ?_
  refine lv_iushr hx hb dX9_add_27 rfl ?_
  refine lv_sipush (v := 255) hx hb dX9_add_28 (by decide) ?_
  refine lv_iand hx hb dX9_add_31 ?_
  refine lv_topi (fun x5 ex5 => ?_)
  obtain rfl : x5 = (by8 p0 16) := ex5.trans rfl
  refine va_iast hx hb hK hP hD hS 1 0 rfl rfl (by unfold vp_in; decide) dX9_add_32 (fun H locs hP hD hS => ?_)
  have hP : va_P D vwCl [(e0, .inr (7, [.ref e1, .int 9])), (e1, .inl (k 0, 940, .inl (upd (upd f 8 (by8 p0 24)) 9 (by8 p0 16))))] H := hP
  have hD : va_D A [(e0, .inr (7, [.ref e1, .int 9])), (e1, .inl (k 0, 940, .inl (upd (upd f 8 (by8 p0 24)) 9 (by8 p0 16))))] := hD
  refine lv_aload_n hx hb dX9_add_33 rfl (lv_at hl 1 rfl) ?_
  refine lv_dup hx hb dX9_add_34 rfl ?_
  refine va_get (D := D) (ci := 7) (v := .int 9) (C := RX9) (T := TX9) (N := 2) hx hb hts inX9_add_X9 hown hK hP 0 rfl rfl 1 (by decide) (hts (.fieldLink RX9 13 "RungMoney$Tape" "size" "I") (by decide +kernel)) (fun _ h9 => h9) rfl dX9_add_35 ?_
  refine lv_iconst (v := 1) hx hb dX9_add_38 (by decide) ?_
  refine lv_iadd hx hb dX9_add_39 ?_
  refine lv_topi (fun x6 ex6 => ?_)
  obtain rfl : x6 = 10 := ex6.trans (by decide)
  refine va_put (D := D) (ci := 7) (v := .int 10) (ty := .int) (C := RX9) (T := TX9) (N := 2) hx hb hts inX9_add_X9 tyX9 tyX9_ok nmX9 hown hK hP hD hS 0 rfl rfl 1 (by decide) (hts (.fieldLink RX9 13 "RungMoney$Tape" "size" "I") (by decide +kernel)) (fun _ h9 => h9) rfl (by decide +kernel) rfl rfl (Nat.le_of_ble_eq_true rfl) dX9_add_40 (fun H locs hP hD hS => ?_)
  have hP : va_P D vwCl [(e0, .inr (7, [.ref e1, .int 10])), (e1, .inl (k 0, 940, .inl (upd (upd f 8 (by8 p0 24)) 9 (by8 p0 16))))] H := hP
  have hD : va_D A [(e0, .inr (7, [.ref e1, .int 10])), (e1, .inl (k 0, 940, .inl (upd (upd f 8 (by8 p0 24)) 9 (by8 p0 16))))] := hD
  refine lv_iinc (v := 8) (lv' := [(2, .int 8), (0, .ref e0), (1, .int p0)]) hx hb dX9_add_43 hl (k := 0) rfl (by decide) (by decide) rfl (fun ls hl => ?_)
  refine lv_goto (tgt := 3) hx hb dX9_add_46 (by decide) ?_
  refine lv_iload_n hx hb dX9_add_3 rfl (lv_at hl 0 rfl) ?_
  refine lv_if_lt (tgt := 49) hx hb dX9_add_4 (by decide) (fun h9 => absurd h9 (by decide)) (fun _ => ?_)
  refine lv_aload_n hx hb dX9_add_7 rfl (lv_at hl 1 rfl) ?_
  refine va_get (D := D) (ci := 7) (v := .int 10) (C := RX9) (T := TX9) (N := 2) hx hb hts inX9_add_X9 hown hK hP 0 rfl rfl 1 (by decide) (hts (.fieldLink RX9 13 "RungMoney$Tape" "size" "I") (by decide +kernel)) (fun _ h9 => h9) rfl dX9_add_8 ?_
  refine lv_sipush (v := 940) hx hb dX9_add_11 (by decide) ?_
  refine lv_icmp_ge (tgt := 49) hx hb dX9_add_14 (by decide) (fun h9 => absurd h9 (by decide)) (fun _ => ?_)
  refine lv_aload_n hx hb dX9_add_17 rfl (lv_at hl 1 rfl) ?_
  refine va_get (D := D) (ci := 7) (v := .ref e1) (C := RX9) (T := TX9) (N := 2) hx hb hts inX9_add_X9 hown hK hP 0 rfl rfl 0 (by decide) (hts (.fieldLink RX9 9 "RungMoney$Tape" "bytes" "[I") (by decide +kernel)) (fun _ h9 => h9) rfl dX9_add_18 ?_
  refine lv_aload_n hx hb dX9_add_21 rfl (lv_at hl 1 rfl) ?_
  refine va_get (D := D) (ci := 7) (v := .int 10) (C := RX9) (T := TX9) (N := 2) hx hb hts inX9_add_X9 hown hK hP 0 rfl rfl 1 (by decide) (hts (.fieldLink RX9 13 "RungMoney$Tape" "size" "I") (by decide +kernel)) (fun _ h9 => h9) rfl dX9_add_22 ?_
  refine lv_iload_n hx hb dX9_add_25 rfl (lv_at hl 2 rfl) ?_
  refine lv_iload_n hx hb dX9_add_26 rfl (lv_at hl 0 rfl) ?_
  refine lv_iushr hx hb dX9_add_27 rfl ?_
  refine lv_sipush (v := 255) hx hb dX9_add_28 (by decide) ?_
  refine lv_iand hx hb dX9_add_31 ?_
  refine lv_topi (fun x8 ex8 => ?_)
  obtain rfl : x8 = (by8 p0 8) := ex8.trans rfl
  refine va_iast hx hb hK hP hD hS 1 0 rfl rfl (by unfold vp_in; decide) dX9_add_32 (fun H locs hP hD hS => ?_)
  have hP : va_P D vwCl [(e0, .inr (7, [.ref e1, .int 10])), (e1, .inl (k 0, 940, .inl (upd (upd (upd f 8 (by8 p0 24)) 9 (by8 p0 16)) 10 (by8 p0 8))))] H := hP
  have hD : va_D A [(e0, .inr (7, [.ref e1, .int 10])), (e1, .inl (k 0, 940, .inl (upd (upd (upd f 8 (by8 p0 24)) 9 (by8 p0 16)) 10 (by8 p0 8))))] := hD
  refine lv_aload_n hx hb dX9_add_33 rfl (lv_at hl 1 rfl) ?_
  refine lv_dup hx hb dX9_add_34 rfl ?_
  refine va_get (D := D) (ci := 7) (v := .int 10) (C := RX9) (T := TX9) (N := 2) hx hb hts inX9_add_X9 hown hK hP 0 rfl rfl 1 (by decide) (hts (.fieldLink RX9 13 "RungMoney$Tape" "size" "I") (by decide +kernel)) (fun _ h9 => h9) rfl dX9_add_35 ?_
  refine lv_iconst (v := 1) hx hb dX9_add_38 (by decide) ?_
  refine lv_iadd hx hb dX9_add_39 ?_
  refine lv_topi (fun x9 ex9 => ?_)
  obtain rfl : x9 = 11 := ex9.trans (by decide)
  refine va_put (D := D) (ci := 7) (v := .int 11) (ty := .int) (C := RX9) (T := TX9) (N := 2) hx hb hts inX9_add_X9 tyX9 tyX9_ok nmX9 hown hK hP hD hS 0 rfl rfl 1 (by decide) (hts (.fieldLink RX9 13 "RungMoney$Tape" "size" "I") (by decide +kernel)) (fun _ h9 => h9) rfl (by decide +kernel) rfl rfl (Nat.le_of_ble_eq_true rfl) dX9_add_40 (fun H locs hP hD hS => ?_)
  have hP : va_P D vwCl [(e0, .inr (7, [.ref e1, .int 11])), (e1, .inl (k 0, 940, .inl (upd (upd (upd f 8 (by8 p0 24)) 9 (by8 p0 16)) 10 (by8 p0 8))))] H := hP
  have hD : va_D A [(e0, .inr (7, [.ref e1, .int 11])), (e1, .inl (k 0, 940, .inl (upd (upd (upd f 8 (by8 p0 24)) 9 (by8 p0 16)) 10 (by8 p0 8))))] := hD
  refine lv_iinc (v := 0) (lv' := [(2, .int 0), (0, .ref e0), (1, .int p0)]) hx hb dX9_add_43 hl (k := 0) rfl (by decide) (by decide) rfl (fun ls hl => ?_)
  refine lv_goto (tgt := 3) hx hb dX9_add_46 (by decide) ?_
  refine lv_iload_n hx hb dX9_add_3 rfl (lv_at hl 0 rfl) ?_
  refine lv_if_lt (tgt := 49) hx hb dX9_add_4 (by decide) (fun h9 => absurd h9 (by decide)) (fun _ => ?_)
  refine lv_aload_n hx hb dX9_add_7 rfl (lv_at hl 1 rfl) ?_
  refine va_get (D := D) (ci := 7) (v := .int 11) (C := RX9) (T := TX9) (N := 2) hx hb hts inX9_add_X9 hown hK hP 0 rfl rfl 1 (by decide) (hts (.fieldLink RX9 13 "RungMoney$Tape" "size" "I") (by decide +kernel)) (fun _ h9 => h9) rfl dX9_add_8 ?_
  refine lv_sipush (v := 940) hx hb dX9_add_11 (by decide) ?_
  refine lv_icmp_ge (tgt := 49) hx hb dX9_add_14 (by decide) (fun h9 => absurd h9 (by decide)) (fun _ => ?_)
  refine lv_aload_n hx hb dX9_add_17 rfl (lv_at hl 1 rfl) ?_
  refine va_get (D := D) (ci := 7) (v := .ref e1) (C := RX9) (T := TX9) (N := 2) hx hb hts inX9_add_X9 hown hK hP 0 rfl rfl 0 (by decide) (hts (.fieldLink RX9 9 "RungMoney$Tape" "bytes" "[I") (by decide +kernel)) (fun _ h9 => h9) rfl dX9_add_18 ?_
  refine lv_aload_n hx hb dX9_add_21 rfl (lv_at hl 1 rfl) ?_
  refine va_get (D := D) (ci := 7) (v := .int 11) (C := RX9) (T := TX9) (N := 2) hx hb hts inX9_add_X9 hown hK hP 0 rfl rfl 1 (by decide) (hts (.fieldLink RX9 13 "RungMoney$Tape" "size" "I") (by decide +kernel)) (fun _ h9 => h9) rfl dX9_add_22 ?_
  refine lv_iload_n hx hb dX9_add_25 rfl (lv_at hl 2 rfl) ?_
  refine lv_iload_n hx hb dX9_add_26 rfl (lv_at hl 0 rfl) ?_
  refine lv_iushr hx hb dX9_add_27 rfl ?_
  refine lv_sipush (v := 255) hx hb dX9_add_28 (by decide) ?_
  refine lv_iand hx hb dX9_add_31 ?_
  refine lv_topi (fun x11 ex11 => ?_)
  obtain rfl : x11 = (by8 p0 0) := ex11.trans rfl
  refine va_iast hx hb hK hP hD hS 1 0 rfl rfl (by unfold vp_in; decide) dX9_add_32 (fun H locs hP hD hS => ?_)
  have hP : va_P D vwCl [(e0, .inr (7, [.ref e1, .int 11])), (e1, .inl (k 0, 940, .inl (upd (upd (upd (upd f 8 (by8 p0 24)) 9 (by8 p0 16)) 10 (by8 p0 8)) 11 (by8 p0 0))))] H := hP
  have hD : va_D A [(e0, .inr (7, [.ref e1, .int 11])), (e1, .inl (k 0, 940, .inl (upd (upd (upd (upd f 8 (by8 p0 24)) 9 (by8 p0 16)) 10 (by8 p0 8)) 11 (by8 p0 0))))] := hD
  refine lv_aload_n hx hb dX9_add_33 rfl (lv_at hl 1 rfl) ?_
  refine lv_dup hx hb dX9_add_34 rfl ?_
  refine va_get (D := D) (ci := 7) (v := .int 11) (C := RX9) (T := TX9) (N := 2) hx hb hts inX9_add_X9 hown hK hP 0 rfl rfl 1 (by decide) (hts (.fieldLink RX9 13 "RungMoney$Tape" "size" "I") (by decide +kernel)) (fun _ h9 => h9) rfl dX9_add_35 ?_
  refine lv_iconst (v := 1) hx hb dX9_add_38 (by decide) ?_
  refine lv_iadd hx hb dX9_add_39 ?_
  refine lv_topi (fun x12 ex12 => ?_)
  obtain rfl : x12 = 12 := ex12.trans (by decide)
  refine va_put (D := D) (ci := 7) (v := .int 12) (ty := .int) (C := RX9) (T := TX9) (N := 2) hx hb hts inX9_add_X9 tyX9 tyX9_ok nmX9 hown hK hP hD hS 0 rfl rfl 1 (by decide) (hts (.fieldLink RX9 13 "RungMoney$Tape" "size" "I") (by decide +kernel)) (fun _ h9 => h9) rfl (by decide +kernel) rfl rfl (Nat.le_of_ble_eq_true rfl) dX9_add_40 (fun H locs hP hD hS => ?_)
  have hP : va_P D vwCl [(e0, .inr (7, [.ref e1, .int 12])), (e1, .inl (k 0, 940, .inl (upd (upd (upd (upd f 8 (by8 p0 24)) 9 (by8 p0 16)) 10 (by8 p0 8)) 11 (by8 p0 0))))] H := hP
  have hD : va_D A [(e0, .inr (7, [.ref e1, .int 12])), (e1, .inl (k 0, 940, .inl (upd (upd (upd (upd f 8 (by8 p0 24)) 9 (by8 p0 16)) 10 (by8 p0 8)) 11 (by8 p0 0))))] := hD
  refine lv_iinc (v := (-8)) (lv' := [(2, .int (-8)), (0, .ref e0), (1, .int p0)]) hx hb dX9_add_43 hl (k := 0) rfl (by decide) (by decide) rfl (fun ls hl => ?_)
  refine lv_goto (tgt := 3) hx hb dX9_add_46 (by decide) ?_
  refine lv_iload_n hx hb dX9_add_3 rfl (lv_at hl 0 rfl) ?_
  refine lv_if_lt (tgt := 49) hx hb dX9_add_4 (by decide) (fun _ => ?_) (fun h9 => absurd (by decide) h9)
  have hP := hP.sub (ws' := [(e0, .inr (7, [.ref e1, .int 12])), (e1, .inl (k 0, 940, .inl (upd (upd (upd (upd f 8 (by8 p0 24)) 9 (by8 p0 16)) 10 (by8 p0 8)) 11 (by8 p0 0))))]) [0, 1] rfl
  have hD := hD.sub (ws' := [(e0, .inr (7, [.ref e1, .int 12])), (e1, .inl (k 0, 940, .inl (upd (upd (upd (upd f 8 (by8 p0 24)) 9 (by8 p0 16)) 10 (by8 p0 8)) 11 (by8 p0 0))))]) [0, 1] (by decide) rfl
  exact g_vret hx hb hr hlocks hK (fun _ => 0) hP hD hS dX9_add_49 ⟨Nat.le_of_ble_eq_true rfl, Nat.le_of_ble_eq_true rfl⟩
set_option maxHeartbeats 4000000 in
set_option maxRecDepth 100000 in
theorem cE_add12 (l : Launch) (D : va_G) (k : Nat → ClassId) (e0 : Nat) (e1 : Nat) (f : Nat → Int32) (p0 : Int32) : g_Cv l yX9_add wsX9_add ({ frames := 0, cells := 0, slots := 0, locals := 0 }) D k g_E0 [.ref e0, .int p0] [(e0, .inr (7, [.ref e1, .int 12])), (e1, .inl (k 0, 940, .inl f))] (fun u => [(e0, .inr (7, [.ref e1, .int 16])), (e1, .inl (k 0, 940, .inl (upd (upd (upd (upd f 12 (by8 p0 24)) 13 (by8 p0 16)) 14 (by8 p0 8)) 15 (by8 p0 0))))]) 0 0 := by
  intro sz
  refine Met.ofW (cc := cX9_add) (maxL := 3) (ret := none) (by decide) rfl ?_
  intro p e s m args below meth c s₁ B hml hv
  obtain ⟨rfl, hsz, hP, hK, hD0, hE⟩ := hv
  have hx := B.exec
  have hb := B.bytes
  have hr := B.returns
  have hts := atoms_spec (ws := wsX9_add) B.pre
  have hown : s.vm.findClass RX9 = some m.cls := findClass_of_methodNamed B.named
  have hlocks := B.notSynchronized
  subst hsz
  have hD := hD0.self (sz := s.heap.size)
  generalize hAe : va_A [(e0, .inr (7, [.ref e1, .int 12])), (e1, .inl (k 0, 940, .inl f))] s.heap.size = A at hD ⊢
  have hA : ∀ q : Nat, s.heap.size ≤ q → A q := fun q h => by rw [← hAe]; exact Or.inr h
  have hS : va_S A s.heap s.heap [] := va_S.rf
  have hP : va_P D vwCl [(e0, .inr (7, [.ref e1, .int 12])), (e1, .inl (k 0, 940, .inl f))] s.heap := hP
  have hl := lv_entry ([.ref e0, .int p0]) (n := 3) (Nat.le_of_ble_eq_true rfl)
  rw [lg_entry_eq]
  generalize (lg_sl ([.ref e0, .int p0]) ++ List.replicate (3 - (lg_sl ([.ref e0, .int p0])).length) Slot.unset).toArray = ls at hl ⊢
  have hl : lv_has ls 3 [(0, .ref e0), (1, .int p0)] := hl
  refine lv_bipush (v := 24) hx hb dX9_add_0 (by decide) ?_
  refine lv_istore_n (lv' := [(2, .int 24), (0, .ref e0), (1, .int p0)]) hx hb dX9_add_2 rfl hl (by decide) rfl (fun ls hl => ?_)
  refine lv_iload_n hx hb dX9_add_3 rfl (lv_at hl 0 rfl) ?_
  refine lv_if_lt (tgt := 49) hx hb dX9_add_4 (by decide) (fun h9 => absurd h9 (by decide)) (fun _ => ?_)
  refine lv_aload_n hx hb dX9_add_7 rfl (lv_at hl 1 rfl) ?_
  refine va_get (D := D) (ci := 7) (v := .int 12) (C := RX9) (T := TX9) (N := 2) hx hb hts inX9_add_X9 hown hK hP 0 rfl rfl 1 (by decide) (hts (.fieldLink RX9 13 "RungMoney$Tape" "size" "I") (by decide +kernel)) (fun _ h9 => h9) rfl dX9_add_8 ?_
  refine lv_sipush (v := 940) hx hb dX9_add_11 (by decide) ?_
  refine lv_icmp_ge (tgt := 49) hx hb dX9_add_14 (by decide) (fun h9 => absurd h9 (by decide)) (fun _ => ?_)
  refine lv_aload_n hx hb dX9_add_17 rfl (lv_at hl 1 rfl) ?_
  refine va_get (D := D) (ci := 7) (v := .ref e1) (C := RX9) (T := TX9) (N := 2) hx hb hts inX9_add_X9 hown hK hP 0 rfl rfl 0 (by decide) (hts (.fieldLink RX9 9 "RungMoney$Tape" "bytes" "[I") (by decide +kernel)) (fun _ h9 => h9) rfl dX9_add_18 ?_
  refine lv_aload_n hx hb dX9_add_21 rfl (lv_at hl 1 rfl) ?_
  refine va_get (D := D) (ci := 7) (v := .int 12) (C := RX9) (T := TX9) (N := 2) hx hb hts inX9_add_X9 hown hK hP 0 rfl rfl 1 (by decide) (hts (.fieldLink RX9 13 "RungMoney$Tape" "size" "I") (by decide +kernel)) (fun _ h9 => h9) rfl dX9_add_22 ?_
  refine lv_iload_n hx hb dX9_add_25 rfl (lv_at hl 2 rfl) ?_
  refine lv_iload_n hx hb dX9_add_26 rfl (lv_at hl 0 rfl) ?_
  refine lv_iushr hx hb dX9_add_27 rfl ?_
  refine lv_sipush (v := 255) hx hb dX9_add_28 (by decide) ?_
  refine lv_iand hx hb dX9_add_31 ?_
  refine lv_topi (fun x2 ex2 => ?_)
  obtain rfl : x2 = (by8 p0 24) := ex2.trans rfl
  refine va_iast hx hb hK hP hD hS 1 0 rfl rfl (by unfold vp_in; decide) dX9_add_32 (fun H locs hP hD hS => ?_)
  have hP : va_P D vwCl [(e0, .inr (7, [.ref e1, .int 12])), (e1, .inl (k 0, 940, .inl (upd f 12 (by8 p0 24))))] H := hP
  have hD : va_D A [(e0, .inr (7, [.ref e1, .int 12])), (e1, .inl (k 0, 940, .inl (upd f 12 (by8 p0 24))))] := hD
  refine lv_aload_n hx hb dX9_add_33 rfl (lv_at hl 1 rfl) ?_
  refine lv_dup hx hb dX9_add_34 rfl ?_
  refine va_get (D := D) (ci := 7) (v := .int 12) (C := RX9) (T := TX9) (N := 2) hx hb hts inX9_add_X9 hown hK hP 0 rfl rfl 1 (by decide) (hts (.fieldLink RX9 13 "RungMoney$Tape" "size" "I") (by decide +kernel)) (fun _ h9 => h9) rfl dX9_add_35 ?_
  refine lv_iconst (v := 1) hx hb dX9_add_38 (by decide) ?_
  refine lv_iadd hx hb dX9_add_39 ?_
  refine lv_topi (fun x3 ex3 => ?_)
  obtain rfl : x3 = 13 := ex3.trans (by decide)
  refine va_put (D := D) (ci := 7) (v := .int 13) (ty := .int) (C := RX9) (T := TX9) (N := 2) hx hb hts inX9_add_X9 tyX9 tyX9_ok nmX9 hown hK hP hD hS 0 rfl rfl 1 (by decide) (hts (.fieldLink RX9 13 "RungMoney$Tape" "size" "I") (by decide +kernel)) (fun _ h9 => h9) rfl (by decide +kernel) rfl rfl (Nat.le_of_ble_eq_true rfl) dX9_add_40 (fun H locs hP hD hS => ?_)
  have hP : va_P D vwCl [(e0, .inr (7, [.ref e1, .int 13])), (e1, .inl (k 0, 940, .inl (upd f 12 (by8 p0 24))))] H := hP
  have hD : va_D A [(e0, .inr (7, [.ref e1, .int 13])), (e1, .inl (k 0, 940, .inl (upd f 12 (by8 p0 24))))] := hD
  refine lv_iinc (v := 16) (lv' := [(2, .int 16), (0, .ref e0), (1, .int p0)]) hx hb dX9_add_43 hl (k := 0) rfl (by decide) (by decide) rfl (fun ls hl => ?_)
  refine lv_goto (tgt := 3) hx hb dX9_add_46 (by decide) ?_
  refine lv_iload_n hx hb dX9_add_3 rfl (lv_at hl 0 rfl) ?_
  refine lv_if_lt (tgt := 49) hx hb dX9_add_4 (by decide) (fun h9 => absurd h9 (by decide)) (fun _ => ?_)
  refine lv_aload_n hx hb dX9_add_7 rfl (lv_at hl 1 rfl) ?_
  refine va_get (D := D) (ci := 7) (v := .int 13) (C := RX9) (T := TX9) (N := 2) hx hb hts inX9_add_X9 hown hK hP 0 rfl rfl 1 (by decide) (hts (.fieldLink RX9 13 "RungMoney$Tape" "size" "I") (by decide +kernel)) (fun _ h9 => h9) rfl dX9_add_8 ?_
  refine lv_sipush (v := 940) hx hb dX9_add_11 (by decide) ?_
  refine lv_icmp_ge (tgt := 49) hx hb dX9_add_14 (by decide) (fun h9 => absurd h9 (by decide)) (fun _ => ?_)
  refine lv_aload_n hx hb dX9_add_17 rfl (lv_at hl 1 rfl) ?_
  refine va_get (D := D) (ci := 7) (v := .ref e1) (C := RX9) (T := TX9) (N := 2) hx hb hts inX9_add_X9 hown hK hP 0 rfl rfl 0 (by decide) (hts (.fieldLink RX9 9 "RungMoney$Tape" "bytes" "[I") (by decide +kernel)) (fun _ h9 => h9) rfl dX9_add_18 ?_
  refine lv_aload_n hx hb dX9_add_21 rfl (lv_at hl 1 rfl) ?_
  refine va_get (D := D) (ci := 7) (v := .int 13) (C := RX9) (T := TX9) (N := 2) hx hb hts inX9_add_X9 hown hK hP 0 rfl rfl 1 (by decide) (hts (.fieldLink RX9 13 "RungMoney$Tape" "size" "I") (by decide +kernel)) (fun _ h9 => h9) rfl dX9_add_22 ?_
  refine lv_iload_n hx hb dX9_add_25 rfl (lv_at hl 2 rfl) ?_
  refine lv_iload_n hx hb dX9_add_26 rfl (lv_at hl 0 rfl) ?_
  refine lv_iushr hx hb dX9_add_27 rfl ?_
  refine lv_sipush (v := 255) hx hb dX9_add_28 (by decide) ?_
  refine lv_iand hx hb dX9_add_31 ?_
  refine lv_topi (fun x5 ex5 => ?_)
  obtain rfl : x5 = (by8 p0 16) := ex5.trans rfl
  refine va_iast hx hb hK hP hD hS 1 0 rfl rfl (by unfold vp_in; decide) dX9_add_32 (fun H locs hP hD hS => ?_)
  have hP : va_P D vwCl [(e0, .inr (7, [.ref e1, .int 13])), (e1, .inl (k 0, 940, .inl (upd (upd f 12 (by8 p0 24)) 13 (by8 p0 16))))] H := hP
  have hD : va_D A [(e0, .inr (7, [.ref e1, .int 13])), (e1, .inl (k 0, 940, .inl (upd (upd f 12 (by8 p0 24)) 13 (by8 p0 16))))] := hD
  refine lv_aload_n hx hb dX9_add_33 rfl (lv_at hl 1 rfl) ?_
  refine lv_dup hx hb dX9_add_34 rfl ?_
  refine va_get (D := D) (ci := 7) (v := .int 13) (C := RX9) (T := TX9) (N := 2) hx hb hts inX9_add_X9 hown hK hP 0 rfl rfl 1 (by decide) (hts (.fieldLink RX9 13 "RungMoney$Tape" "size" "I") (by decide +kernel)) (fun _ h9 => h9) rfl dX9_add_35 ?_
  refine lv_iconst (v := 1) hx hb dX9_add_38 (by decide) ?_
  refine lv_iadd hx hb dX9_add_39 ?_
  refine lv_topi (fun x6 ex6 => ?_)
  obtain rfl : x6 = 14 := ex6.trans (by decide)
  refine va_put (D := D) (ci := 7) (v := .int 14) (ty := .int) (C := RX9) (T := TX9) (N := 2) hx hb hts inX9_add_X9 tyX9 tyX9_ok nmX9 hown hK hP hD hS 0 rfl rfl 1 (by decide) (hts (.fieldLink RX9 13 "RungMoney$Tape" "size" "I") (by decide +kernel)) (fun _ h9 => h9) rfl (by decide +kernel) rfl rfl (Nat.le_of_ble_eq_true rfl) dX9_add_40 (fun H locs hP hD hS => ?_)
  have hP : va_P D vwCl [(e0, .inr (7, [.ref e1, .int 14])), (e1, .inl (k 0, 940, .inl (upd (upd f 12 (by8 p0 24)) 13 (by8 p0 16))))] H := hP
  have hD : va_D A [(e0, .inr (7, [.ref e1, .int 14])), (e1, .inl (k 0, 940, .inl (upd (upd f 12 (by8 p0 24)) 13 (by8 p0 16))))] := hD
  refine lv_iinc (v := 8) (lv' := [(2, .int 8), (0, .ref e0), (1, .int p0)]) hx hb dX9_add_43 hl (k := 0) rfl (by decide) (by decide) rfl (fun ls hl => ?_)
  refine lv_goto (tgt := 3) hx hb dX9_add_46 (by decide) ?_
  refine lv_iload_n hx hb dX9_add_3 rfl (lv_at hl 0 rfl) ?_
  refine lv_if_lt (tgt := 49) hx hb dX9_add_4 (by decide) (fun h9 => absurd h9 (by decide)) (fun _ => ?_)
  refine lv_aload_n hx hb dX9_add_7 rfl (lv_at hl 1 rfl) ?_
  refine va_get (D := D) (ci := 7) (v := .int 14) (C := RX9) (T := TX9) (N := 2) hx hb hts inX9_add_X9 hown hK hP 0 rfl rfl 1 (by decide) (hts (.fieldLink RX9 13 "RungMoney$Tape" "size" "I") (by decide +kernel)) (fun _ h9 => h9) rfl dX9_add_8 ?_
  refine lv_sipush (v := 940) hx hb dX9_add_11 (by decide) ?_
  refine lv_icmp_ge (tgt := 49) hx hb dX9_add_14 (by decide) (fun h9 => absurd h9 (by decide)) (fun _ => ?_)
  refine lv_aload_n hx hb dX9_add_17 rfl (lv_at hl 1 rfl) ?_
  refine va_get (D := D) (ci := 7) (v := .ref e1) (C := RX9) (T := TX9) (N := 2) hx hb hts inX9_add_X9 hown hK hP 0 rfl rfl 0 (by decide) (hts (.fieldLink RX9 9 "RungMoney$Tape" "bytes" "[I") (by decide +kernel)) (fun _ h9 => h9) rfl dX9_add_18 ?_
  refine lv_aload_n hx hb dX9_add_21 rfl (lv_at hl 1 rfl) ?_
  refine va_get (D := D) (ci := 7) (v := .int 14) (C := RX9) (T := TX9) (N := 2) hx hb hts inX9_add_X9 hown hK hP 0 rfl rfl 1 (by decide) (hts (.fieldLink RX9 13 "RungMoney$Tape" "size" "I") (by decide +kernel)) (fun _ h9 => h9) rfl dX9_add_22 ?_
  refine lv_iload_n hx hb dX9_add_25 rfl (lv_at hl 2 rfl) ?_
  refine lv_iload_n hx hb dX9_add_26 rfl (lv_at hl 0 rfl) ?_
  refine lv_iushr hx hb dX9_add_27 rfl ?_
  refine lv_sipush (v := 255) hx hb dX9_add_28 (by decide) ?_
  refine lv_iand hx hb dX9_add_31 ?_
  refine lv_topi (fun x8 ex8 => ?_)
  obtain rfl : x8 = (by8 p0 8) := ex8.trans rfl
  refine va_iast hx hb hK hP hD hS 1 0 rfl rfl (by unfold vp_in; decide) dX9_add_32 (fun H locs hP hD hS => ?_)
  have hP : va_P D vwCl [(e0, .inr (7, [.ref e1, .int 14])), (e1, .inl (k 0, 940, .inl (upd (upd (upd f 12 (by8 p0 24)) 13 (by8 p0 16)) 14 (by8 p0 8))))] H := hP
  have hD : va_D A [(e0, .inr (7, [.ref e1, .int 14])), (e1, .inl (k 0, 940, .inl (upd (upd (upd f 12 (by8 p0 24)) 13 (by8 p0 16)) 14 (by8 p0 8))))] := hD
  refine lv_aload_n hx hb dX9_add_33 rfl (lv_at hl 1 rfl) ?_
  refine lv_dup hx hb dX9_add_34 rfl ?_
  refine va_get (D := D) (ci := 7) (v := .int 14) (C := RX9) (T := TX9) (N := 2) hx hb hts inX9_add_X9 hown hK hP 0 rfl rfl 1 (by decide) (hts (.fieldLink RX9 13 "RungMoney$Tape" "size" "I") (by decide +kernel)) (fun _ h9 => h9) rfl dX9_add_35 ?_
  refine lv_iconst (v := 1) hx hb dX9_add_38 (by decide) ?_
  refine lv_iadd hx hb dX9_add_39 ?_
  refine lv_topi (fun x9 ex9 => ?_)
  obtain rfl : x9 = 15 := ex9.trans (by decide)
  refine va_put (D := D) (ci := 7) (v := .int 15) (ty := .int) (C := RX9) (T := TX9) (N := 2) hx hb hts inX9_add_X9 tyX9 tyX9_ok nmX9 hown hK hP hD hS 0 rfl rfl 1 (by decide) (hts (.fieldLink RX9 13 "RungMoney$Tape" "size" "I") (by decide +kernel)) (fun _ h9 => h9) rfl (by decide +kernel) rfl rfl (Nat.le_of_ble_eq_true rfl) dX9_add_40 (fun H locs hP hD hS => ?_)
  have hP : va_P D vwCl [(e0, .inr (7, [.ref e1, .int 15])), (e1, .inl (k 0, 940, .inl (upd (upd (upd f 12 (by8 p0 24)) 13 (by8 p0 16)) 14 (by8 p0 8))))] H := hP
  have hD : va_D A [(e0, .inr (7, [.ref e1, .int 15])), (e1, .inl (k 0, 940, .inl (upd (upd (upd f 12 (by8 p0 24)) 13 (by8 p0 16)) 14 (by8 p0 8))))] := hD
  refine lv_iinc (v := 0) (lv' := [(2, .int 0), (0, .ref e0), (1, .int p0)]) hx hb dX9_add_43 hl (k := 0) rfl (by decide) (by decide) rfl (fun ls hl => ?_)
  refine lv_goto (tgt := 3) hx hb dX9_add_46 (by decide) ?_
  refine lv_iload_n hx hb dX9_add_3 rfl (lv_at hl 0 rfl) ?_
  refine lv_if_lt (tgt := 49) hx hb dX9_add_4 (by decide) (fun h9 => absurd h9 (by decide)) (fun _ => ?_)
  refine lv_aload_n hx hb dX9_add_7 rfl (lv_at hl 1 rfl) ?_
  refine va_get (D := D) (ci := 7) (v := .int 15) (C := RX9) (T := TX9) (N := 2) hx hb hts inX9_add_X9 hown hK hP 0 rfl rfl 1 (by decide) (hts (.fieldLink RX9 13 "RungMoney$Tape" "size" "I") (by decide +kernel)) (fun _ h9 => h9) rfl dX9_add_8 ?_
  refine lv_sipush (v := 940) hx hb dX9_add_11 (by decide) ?_
  refine lv_icmp_ge (tgt := 49) hx hb dX9_add_14 (by decide) (fun h9 => absurd h9 (by decide)) (fun _ => ?_)
  refine lv_aload_n hx hb dX9_add_17 rfl (lv_at hl 1 rfl) ?_
  refine va_get (D := D) (ci := 7) (v := .ref e1) (C := RX9) (T := TX9) (N := 2) hx hb hts inX9_add_X9 hown hK hP 0 rfl rfl 0 (by decide) (hts (.fieldLink RX9 9 "RungMoney$Tape" "bytes" "[I") (by decide +kernel)) (fun _ h9 => h9) rfl dX9_add_18 ?_
  refine lv_aload_n hx hb dX9_add_21 rfl (lv_at hl 1 rfl) ?_
  refine va_get (D := D) (ci := 7) (v := .int 15) (C := RX9) (T := TX9) (N := 2) hx hb hts inX9_add_X9 hown hK hP 0 rfl rfl 1 (by decide) (hts (.fieldLink RX9 13 "RungMoney$Tape" "size" "I") (by decide +kernel)) (fun _ h9 => h9) rfl dX9_add_22 ?_
  refine lv_iload_n hx hb dX9_add_25 rfl (lv_at hl 2 rfl) ?_
  refine lv_iload_n hx hb dX9_add_26 rfl (lv_at hl 0 rfl) ?_
  refine lv_iushr hx hb dX9_add_27 rfl ?_
  refine lv_sipush (v := 255) hx hb dX9_add_28 (by decide) ?_
  refine lv_iand hx hb dX9_add_31 ?_
  refine lv_topi (fun x11 ex11 => ?_)
  obtain rfl : x11 = (by8 p0 0) := ex11.trans rfl
  refine va_iast hx hb hK hP hD hS 1 0 rfl rfl (by unfold vp_in; decide) dX9_add_32 (fun H locs hP hD hS => ?_)
  have hP : va_P D vwCl [(e0, .inr (7, [.ref e1, .int 15])), (e1, .inl (k 0, 940, .inl (upd (upd (upd (upd f 12 (by8 p0 24)) 13 (by8 p0 16)) 14 (by8 p0 8)) 15 (by8 p0 0))))] H := hP
  have hD : va_D A [(e0, .inr (7, [.ref e1, .int 15])), (e1, .inl (k 0, 940, .inl (upd (upd (upd (upd f 12 (by8 p0 24)) 13 (by8 p0 16)) 14 (by8 p0 8)) 15 (by8 p0 0))))] := hD
  refine lv_aload_n hx hb dX9_add_33 rfl (lv_at hl 1 rfl) ?_
  refine lv_dup hx hb dX9_add_34 rfl ?_
  refine va_get (D := D) (ci := 7) (v := .int 15) (C := RX9) (T := TX9) (N := 2) hx hb hts inX9_add_X9 hown hK hP 0 rfl rfl 1 (by decide) (hts (.fieldLink RX9 13 "RungMoney$Tape" "size" "I") (by decide +kernel)) (fun _ h9 => h9) rfl dX9_add_35 ?_
  refine lv_iconst (v := 1) hx hb dX9_add_38 (by decide) ?_
  refine lv_iadd hx hb dX9_add_39 ?_
  refine lv_topi (fun x12 ex12 => ?_)
  obtain rfl : x12 = 16 := ex12.trans (by decide)
  refine va_put (D := D) (ci := 7) (v := .int 16) (ty := .int) (C := RX9) (T := TX9) (N := 2) hx hb hts inX9_add_X9 tyX9 tyX9_ok nmX9 hown hK hP hD hS 0 rfl rfl 1 (by decide) (hts (.fieldLink RX9 13 "RungMoney$Tape" "size" "I") (by decide +kernel)) (fun _ h9 => h9) rfl (by decide +kernel) rfl rfl (Nat.le_of_ble_eq_true rfl) dX9_add_40 (fun H locs hP hD hS => ?_)
  have hP : va_P D vwCl [(e0, .inr (7, [.ref e1, .int 16])), (e1, .inl (k 0, 940, .inl (upd (upd (upd (upd f 12 (by8 p0 24)) 13 (by8 p0 16)) 14 (by8 p0 8)) 15 (by8 p0 0))))] H := hP
  have hD : va_D A [(e0, .inr (7, [.ref e1, .int 16])), (e1, .inl (k 0, 940, .inl (upd (upd (upd (upd f 12 (by8 p0 24)) 13 (by8 p0 16)) 14 (by8 p0 8)) 15 (by8 p0 0))))] := hD
  refine lv_iinc (v := (-8)) (lv' := [(2, .int (-8)), (0, .ref e0), (1, .int p0)]) hx hb dX9_add_43 hl (k := 0) rfl (by decide) (by decide) rfl (fun ls hl => ?_)
  refine lv_goto (tgt := 3) hx hb dX9_add_46 (by decide) ?_
  refine lv_iload_n hx hb dX9_add_3 rfl (lv_at hl 0 rfl) ?_
  refine lv_if_lt (tgt := 49) hx hb dX9_add_4 (by decide) (fun _ => ?_) (fun h9 => absurd (by decide) h9)
  have hP := hP.sub (ws' := [(e0, .inr (7, [.ref e1, .int 16])), (e1, .inl (k 0, 940, .inl (upd (upd (upd (upd f 12 (by8 p0 24)) 13 (by8 p0 16)) 14 (by8 p0 8)) 15 (by8 p0 0))))]) [0, 1] rfl
  have hD := hD.sub (ws' := [(e0, .inr (7, [.ref e1, .int 16])), (e1, .inl (k 0, 940, .inl (upd (upd (upd (upd f 12 (by8 p0 24)) 13 (by8 p0 16)) 14 (by8 p0 8)) 15 (by8 p0 0))))]) [0, 1] (by decide) rfl
  exact g_vret hx hb hr hlocks hK (fun _ => 0) hP hD hS dX9_add_49 ⟨Nat.le_of_ble_eq_true rfl, Nat.le_of_ble_eq_true rfl⟩
set_option maxHeartbeats 4000000 in
set_option maxRecDepth 100000 in
theorem cE_add16 (l : Launch) (D : va_G) (k : Nat → ClassId) (e0 : Nat) (e1 : Nat) (f : Nat → Int32) (p0 : Int32) : g_Cv l yX9_add wsX9_add ({ frames := 0, cells := 0, slots := 0, locals := 0 }) D k g_E0 [.ref e0, .int p0] [(e0, .inr (7, [.ref e1, .int 16])), (e1, .inl (k 0, 940, .inl f))] (fun u => [(e0, .inr (7, [.ref e1, .int 20])), (e1, .inl (k 0, 940, .inl (upd (upd (upd (upd f 16 (by8 p0 24)) 17 (by8 p0 16)) 18 (by8 p0 8)) 19 (by8 p0 0))))]) 0 0 := by
  intro sz
  refine Met.ofW (cc := cX9_add) (maxL := 3) (ret := none) (by decide) rfl ?_
  intro p e s m args below meth c s₁ B hml hv
  obtain ⟨rfl, hsz, hP, hK, hD0, hE⟩ := hv
  have hx := B.exec
  have hb := B.bytes
  have hr := B.returns
  have hts := atoms_spec (ws := wsX9_add) B.pre
  have hown : s.vm.findClass RX9 = some m.cls := findClass_of_methodNamed B.named
  have hlocks := B.notSynchronized
  subst hsz
  have hD := hD0.self (sz := s.heap.size)
  generalize hAe : va_A [(e0, .inr (7, [.ref e1, .int 16])), (e1, .inl (k 0, 940, .inl f))] s.heap.size = A at hD ⊢
  have hA : ∀ q : Nat, s.heap.size ≤ q → A q := fun q h => by rw [← hAe]; exact Or.inr h
  have hS : va_S A s.heap s.heap [] := va_S.rf
  have hP : va_P D vwCl [(e0, .inr (7, [.ref e1, .int 16])), (e1, .inl (k 0, 940, .inl f))] s.heap := hP
  have hl := lv_entry ([.ref e0, .int p0]) (n := 3) (Nat.le_of_ble_eq_true rfl)
  rw [lg_entry_eq]
  generalize (lg_sl ([.ref e0, .int p0]) ++ List.replicate (3 - (lg_sl ([.ref e0, .int p0])).length) Slot.unset).toArray = ls at hl ⊢
  have hl : lv_has ls 3 [(0, .ref e0), (1, .int p0)] := hl
  refine lv_bipush (v := 24) hx hb dX9_add_0 (by decide) ?_
  refine lv_istore_n (lv' := [(2, .int 24), (0, .ref e0), (1, .int p0)]) hx hb dX9_add_2 rfl hl (by decide) rfl (fun ls hl => ?_)
  refine lv_iload_n hx hb dX9_add_3 rfl (lv_at hl 0 rfl) ?_
  refine lv_if_lt (tgt := 49) hx hb dX9_add_4 (by decide) (fun h9 => absurd h9 (by decide)) (fun _ => ?_)
  refine lv_aload_n hx hb dX9_add_7 rfl (lv_at hl 1 rfl) ?_
  refine va_get (D := D) (ci := 7) (v := .int 16) (C := RX9) (T := TX9) (N := 2) hx hb hts inX9_add_X9 hown hK hP 0 rfl rfl 1 (by decide) (hts (.fieldLink RX9 13 "RungMoney$Tape" "size" "I") (by decide +kernel)) (fun _ h9 => h9) rfl dX9_add_8 ?_
  refine lv_sipush (v := 940) hx hb dX9_add_11 (by decide) ?_
  refine lv_icmp_ge (tgt := 49) hx hb dX9_add_14 (by decide) (fun h9 => absurd h9 (by decide)) (fun _ => ?_)
  refine lv_aload_n hx hb dX9_add_17 rfl (lv_at hl 1 rfl) ?_
  refine va_get (D := D) (ci := 7) (v := .ref e1) (C := RX9) (T := TX9) (N := 2) hx hb hts inX9_add_X9 hown hK hP 0 rfl rfl 0 (by decide) (hts (.fieldLink RX9 9 "RungMoney$Tape" "bytes" "[I") (by decide +kernel)) (fun _ h9 => h9) rfl dX9_add_18 ?_
  refine lv_aload_n hx hb dX9_add_21 rfl (lv_at hl 1 rfl) ?_
  refine va_get (D := D) (ci := 7) (v := .int 16) (C := RX9) (T := TX9) (N := 2) hx hb hts inX9_add_X9 hown hK hP 0 rfl rfl 1 (by decide) (hts (.fieldLink RX9 13 "RungMoney$Tape" "size" "I") (by decide +kernel)) (fun _ h9 => h9) rfl dX9_add_22 ?_
  refine lv_iload_n hx hb dX9_add_25 rfl (lv_at hl 2 rfl) ?_
  refine lv_iload_n hx hb dX9_add_26 rfl (lv_at hl 0 rfl) ?_
  refine lv_iushr hx hb dX9_add_27 rfl ?_
  refine lv_sipush (v := 255) hx hb dX9_add_28 (by decide) ?_
  refine lv_iand hx hb dX9_add_31 ?_
  refine lv_topi (fun x2 ex2 => ?_)
  obtain rfl : x2 = (by8 p0 24) := ex2.trans rfl
  refine va_iast hx hb hK hP hD hS 1 0 rfl rfl (by unfold vp_in; decide) dX9_add_32 (fun H locs hP hD hS => ?_)
  have hP : va_P D vwCl [(e0, .inr (7, [.ref e1, .int 16])), (e1, .inl (k 0, 940, .inl (upd f 16 (by8 p0 24))))] H := hP
  have hD : va_D A [(e0, .inr (7, [.ref e1, .int 16])), (e1, .inl (k 0, 940, .inl (upd f 16 (by8 p0 24))))] := hD
  refine lv_aload_n hx hb dX9_add_33 rfl (lv_at hl 1 rfl) ?_
  refine lv_dup hx hb dX9_add_34 rfl ?_
  refine va_get (D := D) (ci := 7) (v := .int 16) (C := RX9) (T := TX9) (N := 2) hx hb hts inX9_add_X9 hown hK hP 0 rfl rfl 1 (by decide) (hts (.fieldLink RX9 13 "RungMoney$Tape" "size" "I") (by decide +kernel)) (fun _ h9 => h9) rfl dX9_add_35 ?_
  refine lv_iconst (v := 1) hx hb dX9_add_38 (by decide) ?_
  refine lv_iadd hx hb dX9_add_39 ?_
  refine lv_topi (fun x3 ex3 => ?_)
  obtain rfl : x3 = 17 := ex3.trans (by decide)
  refine va_put (D := D) (ci := 7) (v := .int 17) (ty := .int) (C := RX9) (T := TX9) (N := 2) hx hb hts inX9_add_X9 tyX9 tyX9_ok nmX9 hown hK hP hD hS 0 rfl rfl 1 (by decide) (hts (.fieldLink RX9 13 "RungMoney$Tape" "size" "I") (by decide +kernel)) (fun _ h9 => h9) rfl (by decide +kernel) rfl rfl (Nat.le_of_ble_eq_true rfl) dX9_add_40 (fun H locs hP hD hS => ?_)
  have hP : va_P D vwCl [(e0, .inr (7, [.ref e1, .int 17])), (e1, .inl (k 0, 940, .inl (upd f 16 (by8 p0 24))))] H := hP
  have hD : va_D A [(e0, .inr (7, [.ref e1, .int 17])), (e1, .inl (k 0, 940, .inl (upd f 16 (by8 p0 24))))] := hD
  refine lv_iinc (v := 16) (lv' := [(2, .int 16), (0, .ref e0), (1, .int p0)]) hx hb dX9_add_43 hl (k := 0) rfl (by decide) (by decide) rfl (fun ls hl => ?_)
  refine lv_goto (tgt := 3) hx hb dX9_add_46 (by decide) ?_
  refine lv_iload_n hx hb dX9_add_3 rfl (lv_at hl 0 rfl) ?_
  refine lv_if_lt (tgt := 49) hx hb dX9_add_4 (by decide) (fun h9 => absurd h9 (by decide)) (fun _ => ?_)
  refine lv_aload_n hx hb dX9_add_7 rfl (lv_at hl 1 rfl) ?_
  refine va_get (D := D) (ci := 7) (v := .int 17) (C := RX9) (T := TX9) (N := 2) hx hb hts inX9_add_X9 hown hK hP 0 rfl rfl 1 (by decide) (hts (.fieldLink RX9 13 "RungMoney$Tape" "size" "I") (by decide +kernel)) (fun _ h9 => h9) rfl dX9_add_8 ?_
  refine lv_sipush (v := 940) hx hb dX9_add_11 (by decide) ?_
  refine lv_icmp_ge (tgt := 49) hx hb dX9_add_14 (by decide) (fun h9 => absurd h9 (by decide)) (fun _ => ?_)
  refine lv_aload_n hx hb dX9_add_17 rfl (lv_at hl 1 rfl) ?_
  refine va_get (D := D) (ci := 7) (v := .ref e1) (C := RX9) (T := TX9) (N := 2) hx hb hts inX9_add_X9 hown hK hP 0 rfl rfl 0 (by decide) (hts (.fieldLink RX9 9 "RungMoney$Tape" "bytes" "[I") (by decide +kernel)) (fun _ h9 => h9) rfl dX9_add_18 ?_
  refine lv_aload_n hx hb dX9_add_21 rfl (lv_at hl 1 rfl) ?_
  refine va_get (D := D) (ci := 7) (v := .int 17) (C := RX9) (T := TX9) (N := 2) hx hb hts inX9_add_X9 hown hK hP 0 rfl rfl 1 (by decide) (hts (.fieldLink RX9 13 "RungMoney$Tape" "size" "I") (by decide +kernel)) (fun _ h9 => h9) rfl dX9_add_22 ?_
  refine lv_iload_n hx hb dX9_add_25 rfl (lv_at hl 2 rfl) ?_
  refine lv_iload_n hx hb dX9_add_26 rfl (lv_at hl 0 rfl) ?_
  refine lv_iushr hx hb dX9_add_27 rfl ?_
  refine lv_sipush (v := 255) hx hb dX9_add_28 (by decide) ?_
  refine lv_iand hx hb dX9_add_31 ?_
  refine lv_topi (fun x5 ex5 => ?_)
  obtain rfl : x5 = (by8 p0 16) := ex5.trans rfl
  refine va_iast hx hb hK hP hD hS 1 0 rfl rfl (by unfold vp_in; decide) dX9_add_32 (fun H locs hP hD hS => ?_)
  have hP : va_P D vwCl [(e0, .inr (7, [.ref e1, .int 17])), (e1, .inl (k 0, 940, .inl (upd (upd f 16 (by8 p0 24)) 17 (by8 p0 16))))] H := hP
  have hD : va_D A [(e0, .inr (7, [.ref e1, .int 17])), (e1, .inl (k 0, 940, .inl (upd (upd f 16 (by8 p0 24)) 17 (by8 p0 16))))] := hD
  refine lv_aload_n hx hb dX9_add_33 rfl (lv_at hl 1 rfl) ?_
  refine lv_dup hx hb dX9_add_34 rfl ?_
  refine va_get (D := D) (ci := 7) (v := .int 17) (C := RX9) (T := TX9) (N := 2) hx hb hts inX9_add_X9 hown hK hP 0 rfl rfl 1 (by decide) (hts (.fieldLink RX9 13 "RungMoney$Tape" "size" "I") (by decide +kernel)) (fun _ h9 => h9) rfl dX9_add_35 ?_
  refine lv_iconst (v := 1) hx hb dX9_add_38 (by decide) ?_
  refine lv_iadd hx hb dX9_add_39 ?_
  refine lv_topi (fun x6 ex6 => ?_)
  obtain rfl : x6 = 18 := ex6.trans (by decide)
  refine va_put (D := D) (ci := 7) (v := .int 18) (ty := .int) (C := RX9) (T := TX9) (N := 2) hx hb hts inX9_add_X9 tyX9 tyX9_ok nmX9 hown hK hP hD hS 0 rfl rfl 1 (by decide) (hts (.fieldLink RX9 13 "RungMoney$Tape" "size" "I") (by decide +kernel)) (fun _ h9 => h9) rfl (by decide +kernel) rfl rfl (Nat.le_of_ble_eq_true rfl) dX9_add_40 (fun H locs hP hD hS => ?_)
  have hP : va_P D vwCl [(e0, .inr (7, [.ref e1, .int 18])), (e1, .inl (k 0, 940, .inl (upd (upd f 16 (by8 p0 24)) 17 (by8 p0 16))))] H := hP
  have hD : va_D A [(e0, .inr (7, [.ref e1, .int 18])), (e1, .inl (k 0, 940, .inl (upd (upd f 16 (by8 p0 24)) 17 (by8 p0 16))))] := hD
  refine lv_iinc (v := 8) (lv' := [(2, .int 8), (0, .ref e0), (1, .int p0)]) hx hb dX9_add_43 hl (k := 0) rfl (by decide) (by decide) rfl (fun ls hl => ?_)
  refine lv_goto (tgt := 3) hx hb dX9_add_46 (by decide) ?_
  refine lv_iload_n hx hb dX9_add_3 rfl (lv_at hl 0 rfl) ?_
  refine lv_if_lt (tgt := 49) hx hb dX9_add_4 (by decide) (fun h9 => absurd h9 (by decide)) (fun _ => ?_)
  refine lv_aload_n hx hb dX9_add_7 rfl (lv_at hl 1 rfl) ?_
  refine va_get (D := D) (ci := 7) (v := .int 18) (C := RX9) (T := TX9) (N := 2) hx hb hts inX9_add_X9 hown hK hP 0 rfl rfl 1 (by decide) (hts (.fieldLink RX9 13 "RungMoney$Tape" "size" "I") (by decide +kernel)) (fun _ h9 => h9) rfl dX9_add_8 ?_
  refine lv_sipush (v := 940) hx hb dX9_add_11 (by decide) ?_
  refine lv_icmp_ge (tgt := 49) hx hb dX9_add_14 (by decide) (fun h9 => absurd h9 (by decide)) (fun _ => ?_)
  refine lv_aload_n hx hb dX9_add_17 rfl (lv_at hl 1 rfl) ?_
  refine va_get (D := D) (ci := 7) (v := .ref e1) (C := RX9) (T := TX9) (N := 2) hx hb hts inX9_add_X9 hown hK hP 0 rfl rfl 0 (by decide) (hts (.fieldLink RX9 9 "RungMoney$Tape" "bytes" "[I") (by decide +kernel)) (fun _ h9 => h9) rfl dX9_add_18 ?_
  refine lv_aload_n hx hb dX9_add_21 rfl (lv_at hl 1 rfl) ?_
  refine va_get (D := D) (ci := 7) (v := .int 18) (C := RX9) (T := TX9) (N := 2) hx hb hts inX9_add_X9 hown hK hP 0 rfl rfl 1 (by decide) (hts (.fieldLink RX9 13 "RungMoney$Tape" "size" "I") (by decide +kernel)) (fun _ h9 => h9) rfl dX9_add_22 ?_
  refine lv_iload_n hx hb dX9_add_25 rfl (lv_at hl 2 rfl) ?_
  refine lv_iload_n hx hb dX9_add_26 rfl (lv_at hl 0 rfl) ?_
  refine lv_iushr hx hb dX9_add_27 rfl ?_
  refine lv_sipush (v := 255) hx hb dX9_add_28 (by decide) ?_
  refine lv_iand hx hb dX9_add_31 ?_
  refine lv_topi (fun x8 ex8 => ?_)
  obtain rfl : x8 = (by8 p0 8) := ex8.trans rfl
  refine va_iast hx hb hK hP hD hS 1 0 rfl rfl (by unfold vp_in; decide) dX9_add_32 (fun H locs hP hD hS => ?_)
  have hP : va_P D vwCl [(e0, .inr (7, [.ref e1, .int 18])), (e1, .inl (k 0, 940, .inl (upd (upd (upd f 16 (by8 p0 24)) 17 (by8 p0 16)) 18 (by8 p0 8))))] H := hP
  have hD : va_D A [(e0, .inr (7, [.ref e1, .int 18])), (e1, .inl (k 0, 940, .inl (upd (upd (upd f 16 (by8 p0 24)) 17 (by8 p0 16)) 18 (by8 p0 8))))] := hD
  refine lv_aload_n hx hb dX9_add_33 rfl (lv_at hl 1 rfl) ?_
  refine lv_dup hx hb dX9_add_34 rfl ?_
  refine va_get (D := D) (ci := 7) (v := .int 18) (C := RX9) (T := TX9) (N := 2) hx hb hts inX9_add_X9 hown hK hP 0 rfl rfl 1 (by decide) (hts (.fieldLink RX9 13 "RungMoney$Tape" "size" "I") (by decide +kernel)) (fun _ h9 => h9) rfl dX9_add_35 ?_
  refine lv_iconst (v := 1) hx hb dX9_add_38 (by decide) ?_
  refine lv_iadd hx hb dX9_add_39 ?_
  refine lv_topi (fun x9 ex9 => ?_)
  obtain rfl : x9 = 19 := ex9.trans (by decide)
  refine va_put (D := D) (ci := 7) (v := .int 19) (ty := .int) (C := RX9) (T := TX9) (N := 2) hx hb hts inX9_add_X9 tyX9 tyX9_ok nmX9 hown hK hP hD hS 0 rfl rfl 1 (by decide) (hts (.fieldLink RX9 13 "RungMoney$Tape" "size" "I") (by decide +kernel)) (fun _ h9 => h9) rfl (by decide +kernel) rfl rfl (Nat.le_of_ble_eq_true rfl) dX9_add_40 (fun H locs hP hD hS => ?_)
  have hP : va_P D vwCl [(e0, .inr (7, [.ref e1, .int 19])), (e1, .inl (k 0, 940, .inl (upd (upd (upd f 16 (by8 p0 24)) 17 (by8 p0 16)) 18 (by8 p0 8))))] H := hP
  have hD : va_D A [(e0, .inr (7, [.ref e1, .int 19])), (e1, .inl (k 0, 940, .inl (upd (upd (upd f 16 (by8 p0 24)) 17 (by8 p0 16)) 18 (by8 p0 8))))] := hD
  refine lv_iinc (v := 0) (lv' := [(2, .int 0), (0, .ref e0), (1, .int p0)]) hx hb dX9_add_43 hl (k := 0) rfl (by decide) (by decide) rfl (fun ls hl => ?_)
  refine lv_goto (tgt := 3) hx hb dX9_add_46 (by decide) ?_
  refine lv_iload_n hx hb dX9_add_3 rfl (lv_at hl 0 rfl) ?_
  refine lv_if_lt (tgt := 49) hx hb dX9_add_4 (by decide) (fun h9 => absurd h9 (by decide)) (fun _ => ?_)
  refine lv_aload_n hx hb dX9_add_7 rfl (lv_at hl 1 rfl) ?_
  refine va_get (D := D) (ci := 7) (v := .int 19) (C := RX9) (T := TX9) (N := 2) hx hb hts inX9_add_X9 hown hK hP 0 rfl rfl 1 (by decide) (hts (.fieldLink RX9 13 "RungMoney$Tape" "size" "I") (by decide +kernel)) (fun _ h9 => h9) rfl dX9_add_8 ?_
  refine lv_sipush (v := 940) hx hb dX9_add_11 (by decide) ?_
  refine lv_icmp_ge (tgt := 49) hx hb dX9_add_14 (by decide) (fun h9 => absurd h9 (by decide)) (fun _ => ?_)
  refine lv_aload_n hx hb dX9_add_17 rfl (lv_at hl 1 rfl) ?_
  refine va_get (D := D) (ci := 7) (v := .ref e1) (C := RX9) (T := TX9) (N := 2) hx hb hts inX9_add_X9 hown hK hP 0 rfl rfl 0 (by decide) (hts (.fieldLink RX9 9 "RungMoney$Tape" "bytes" "[I") (by decide +kernel)) (fun _ h9 => h9) rfl dX9_add_18 ?_
  refine lv_aload_n hx hb dX9_add_21 rfl (lv_at hl 1 rfl) ?_
  refine va_get (D := D) (ci := 7) (v := .int 19) (C := RX9) (T := TX9) (N := 2) hx hb hts inX9_add_X9 hown hK hP 0 rfl rfl 1 (by decide) (hts (.fieldLink RX9 13 "RungMoney$Tape" "size" "I") (by decide +kernel)) (fun _ h9 => h9) rfl dX9_add_22 ?_
  refine lv_iload_n hx hb dX9_add_25 rfl (lv_at hl 2 rfl) ?_
  refine lv_iload_n hx hb dX9_add_26 rfl (lv_at hl 0 rfl) ?_
  refine lv_iushr hx hb dX9_add_27 rfl ?_
  refine lv_sipush (v := 255) hx hb dX9_add_28 (by decide) ?_
  refine lv_iand hx hb dX9_add_31 ?_
  refine lv_topi (fun x11 ex11 => ?_)
  obtain rfl : x11 = (by8 p0 0) := ex11.trans rfl
  refine va_iast hx hb hK hP hD hS 1 0 rfl rfl (by unfold vp_in; decide) dX9_add_32 (fun H locs hP hD hS => ?_)
  have hP : va_P D vwCl [(e0, .inr (7, [.ref e1, .int 19])), (e1, .inl (k 0, 940, .inl (upd (upd (upd (upd f 16 (by8 p0 24)) 17 (by8 p0 16)) 18 (by8 p0 8)) 19 (by8 p0 0))))] H := hP
  have hD : va_D A [(e0, .inr (7, [.ref e1, .int 19])), (e1, .inl (k 0, 940, .inl (upd (upd (upd (upd f 16 (by8 p0 24)) 17 (by8 p0 16)) 18 (by8 p0 8)) 19 (by8 p0 0))))] := hD
  refine lv_aload_n hx hb dX9_add_33 rfl (lv_at hl 1 rfl) ?_
  refine lv_dup hx hb dX9_add_34 rfl ?_
  refine va_get (D := D) (ci := 7) (v := .int 19) (C := RX9) (T := TX9) (N := 2) hx hb hts inX9_add_X9 hown hK hP 0 rfl rfl 1 (by decide) (hts (.fieldLink RX9 13 "RungMoney$Tape" "size" "I") (by decide +kernel)) (fun _ h9 => h9) rfl dX9_add_35 ?_
  refine lv_iconst (v := 1) hx hb dX9_add_38 (by decide) ?_
  refine lv_iadd hx hb dX9_add_39 ?_
  refine lv_topi (fun x12 ex12 => ?_)
  obtain rfl : x12 = 20 := ex12.trans (by decide)
  refine va_put (D := D) (ci := 7) (v := .int 20) (ty := .int) (C := RX9) (T := TX9) (N := 2) hx hb hts inX9_add_X9 tyX9 tyX9_ok nmX9 hown hK hP hD hS 0 rfl rfl 1 (by decide) (hts (.fieldLink RX9 13 "RungMoney$Tape" "size" "I") (by decide +kernel)) (fun _ h9 => h9) rfl (by decide +kernel) rfl rfl (Nat.le_of_ble_eq_true rfl) dX9_add_40 (fun H locs hP hD hS => ?_)
  have hP : va_P D vwCl [(e0, .inr (7, [.ref e1, .int 20])), (e1, .inl (k 0, 940, .inl (upd (upd (upd (upd f 16 (by8 p0 24)) 17 (by8 p0 16)) 18 (by8 p0 8)) 19 (by8 p0 0))))] H := hP
  have hD : va_D A [(e0, .inr (7, [.ref e1, .int 20])), (e1, .inl (k 0, 940, .inl (upd (upd (upd (upd f 16 (by8 p0 24)) 17 (by8 p0 16)) 18 (by8 p0 8)) 19 (by8 p0 0))))] := hD
  refine lv_iinc (v := (-8)) (lv' := [(2, .int (-8)), (0, .ref e0), (1, .int p0)]) hx hb dX9_add_43 hl (k := 0) rfl (by decide) (by decide) rfl (fun ls hl => ?_)
  refine lv_goto (tgt := 3) hx hb dX9_add_46 (by decide) ?_
  refine lv_iload_n hx hb dX9_add_3 rfl (lv_at hl 0 rfl) ?_
  refine lv_if_lt (tgt := 49) hx hb dX9_add_4 (by decide) (fun _ => ?_) (fun h9 => absurd (by decide) h9)
  have hP := hP.sub (ws' := [(e0, .inr (7, [.ref e1, .int 20])), (e1, .inl (k 0, 940, .inl (upd (upd (upd (upd f 16 (by8 p0 24)) 17 (by8 p0 16)) 18 (by8 p0 8)) 19 (by8 p0 0))))]) [0, 1] rfl
  have hD := hD.sub (ws' := [(e0, .inr (7, [.ref e1, .int 20])), (e1, .inl (k 0, 940, .inl (upd (upd (upd (upd f 16 (by8 p0 24)) 17 (by8 p0 16)) 18 (by8 p0 8)) 19 (by8 p0 0))))]) [0, 1] (by decide) rfl
  exact g_vret hx hb hr hlocks hK (fun _ => 0) hP hD hS dX9_add_49 ⟨Nat.le_of_ble_eq_true rfl, Nat.le_of_ble_eq_true rfl⟩
set_option maxHeartbeats 4000000 in
set_option maxRecDepth 100000 in
theorem cR_step900 (l : Launch) (D : va_G) (k : Nat → ClassId) (d0 : Nat) (e0 : Nat) (e1 : Nat) : g_Cv l yX7_step wsX7_step ({ frames := 0, cells := 0, slots := 0, locals := 0 }) D k g_E0 [.ref d0] [(d0, .inr (5, [.ref e0, .int 900, .int 0, .int 0, .int 0, .long 0, .int 0, .int 0, .int 0, .int 0, .int 0])), (e0, .inr (7, [.ref e1, .int 0]))] (fun u => [(d0, .inr (5, [.ref e0, .int 900, .int 0, .int 0, .int 0, .long 0, .int 0, .int 0, .int 0, .int 0, .int 0])), (e0, .inr (7, [.ref e1, .int 0]))]) 0 0 := by
  intro sz
  refine Met.ofW (cc := cX7_step) (maxL := 1) (ret := none) (by decide) rfl ?_
  intro p e s m args below meth c s₁ B hml hv
  obtain ⟨rfl, hsz, hP, hK, hD0, hE⟩ := hv
  have hx := B.exec
  have hb := B.bytes
  have hr := B.returns
  have hts := atoms_spec (ws := wsX7_step) B.pre
  have hown : s.vm.findClass RX7 = some m.cls := findClass_of_methodNamed B.named
  have hlocks := B.notSynchronized
  subst hsz
  have hD := hD0.self (sz := s.heap.size)
  generalize hAe : va_A [(d0, .inr (5, [.ref e0, .int 900, .int 0, .int 0, .int 0, .long 0, .int 0, .int 0, .int 0, .int 0, .int 0])), (e0, .inr (7, [.ref e1, .int 0]))] s.heap.size = A at hD ⊢
  have hA : ∀ q : Nat, s.heap.size ≤ q → A q := fun q h => by rw [← hAe]; exact Or.inr h
  have hS : va_S A s.heap s.heap [] := va_S.rf
  have hP : va_P D vwCl [(d0, .inr (5, [.ref e0, .int 900, .int 0, .int 0, .int 0, .long 0, .int 0, .int 0, .int 0, .int 0, .int 0])), (e0, .inr (7, [.ref e1, .int 0]))] s.heap := hP
  have hl := lv_entry ([.ref d0]) (n := 1) (Nat.le_of_ble_eq_true rfl)
  rw [lg_entry_eq]
  generalize (lg_sl ([.ref d0]) ++ List.replicate (1 - (lg_sl ([.ref d0])).length) Slot.unset).toArray = ls at hl ⊢
  have hl : lv_has ls 1 [(0, .ref d0)] := hl
  refine lv_aload_n hx hb dX7_step_0 rfl (lv_at hl 0 rfl) ?_
  refine va_get (D := D) (ci := 5) (v := .int 0) (C := RX7) (T := TX7) (N := 11) hx hb hts inX7_step_X7 hown hK hP 0 rfl rfl 3 (by decide) (hts (.fieldLink RX7 19 "RungMoney$Reader" "next" "I") (by decide +kernel)) (fun _ h9 => h9) rfl dX7_step_1 ?_
  refine lv_aload_n hx hb dX7_step_4 rfl (lv_at hl 0 rfl) ?_
  refine va_get (D := D) (ci := 5) (v := .ref e0) (C := RX7) (T := TX7) (N := 11) hx hb hts inX7_step_X7 hown hK hP 0 rfl rfl 0 (by decide) (hts (.fieldLink RX7 9 "RungMoney$Reader" "tape" "LRungMoney$Tape;") (by decide +kernel)) (fun _ h9 => h9) rfl dX7_step_5 ?_
  refine va_get (D := D) (ci := 7) (v := .int 0) (C := RX9) (T := TX9) (N := 2) hx hb hts inX7_step_X9 hown hK hP 1 rfl rfl 1 (by decide) (hts (.fieldLink RX7 31 "RungMoney$Tape" "size" "I") (by decide +kernel)) (fun _ h9 => h9) rfl dX7_step_8 ?_
  refine lv_icmp_ge (tgt := 45) hx hb dX7_step_11 (by decide) (fun _ => ?_) (fun h9 => absurd (by decide) h9)
  refine lv_aload_n hx hb dX7_step_45 rfl (lv_at hl 0 rfl) ?_
  refine lv_aload_n hx hb dX7_step_46 rfl (lv_at hl 0 rfl) ?_
  refine va_get (D := D) (ci := 5) (v := .int 0) (C := RX7) (T := TX7) (N := 11) hx hb hts inX7_step_X7 hown hK hP 0 rfl rfl 3 (by decide) (hts (.fieldLink RX7 19 "RungMoney$Reader" "next" "I") (by decide +kernel)) (fun _ h9 => h9) rfl dX7_step_47 ?_
  refine va_put (D := D) (ci := 5) (v := .int 0) (ty := .int) (C := RX7) (T := TX7) (N := 11) hx hb hts inX7_step_X7 tyX7 tyX7_ok nmX7 hown hK hP hD hS 0 rfl rfl 2 (by decide) (hts (.fieldLink RX7 44 "RungMoney$Reader" "at" "I") (by decide +kernel)) (fun _ h9 => h9) rfl (by decide +kernel) rfl rfl (Nat.le_of_ble_eq_true rfl) dX7_step_50 (fun H locs hP hD hS => ?_)
  have hP : va_P D vwCl [(d0, .inr (5, [.ref e0, .int 900, .int 0, .int 0, .int 0, .long 0, .int 0, .int 0, .int 0, .int 0, .int 0])), (e0, .inr (7, [.ref e1, .int 0]))] H := hP
  have hD : va_D A [(d0, .inr (5, [.ref e0, .int 900, .int 0, .int 0, .int 0, .long 0, .int 0, .int 0, .int 0, .int 0, .int 0])), (e0, .inr (7, [.ref e1, .int 0]))] := hD
  refine lv_aload_n hx hb dX7_step_53 rfl (lv_at hl 0 rfl) ?_
  refine lv_lconst (v := 0) hx hb dX7_step_54 (by decide) ?_
  refine va_put (D := D) (ci := 5) (v := .long 0) (ty := .long) (C := RX7) (T := TX7) (N := 11) hx hb hts inX7_step_X7 tyX7 tyX7_ok nmX7 hown hK hP hD hS 0 rfl rfl 5 (by decide) (hts (.fieldLink RX7 47 "RungMoney$Reader" "word" "J") (by decide +kernel)) (fun _ h9 => h9) rfl (by decide +kernel) rfl rfl (Nat.le_of_ble_eq_true rfl) dX7_step_55 (fun H locs hP hD hS => ?_)
  have hP : va_P D vwCl [(d0, .inr (5, [.ref e0, .int 900, .int 0, .int 0, .int 0, .long 0, .int 0, .int 0, .int 0, .int 0, .int 0])), (e0, .inr (7, [.ref e1, .int 0]))] H := hP
  have hD : va_D A [(d0, .inr (5, [.ref e0, .int 900, .int 0, .int 0, .int 0, .long 0, .int 0, .int 0, .int 0, .int 0, .int 0])), (e0, .inr (7, [.ref e1, .int 0]))] := hD
  refine lv_aload_n hx hb dX7_step_58 rfl (lv_at hl 0 rfl) ?_
  refine lv_iconst (v := 0) hx hb dX7_step_59 (by decide) ?_
  refine va_put (D := D) (ci := 5) (v := .int 0) (ty := .int) (C := RX7) (T := TX7) (N := 11) hx hb hts inX7_step_X7 tyX7 tyX7_ok nmX7 hown hK hP hD hS 0 rfl rfl 6 (by decide) (hts (.fieldLink RX7 51 "RungMoney$Reader" "number" "I") (by decide +kernel)) (fun _ h9 => h9) rfl (by decide +kernel) rfl rfl (Nat.le_of_ble_eq_true rfl) dX7_step_60 (fun H locs hP hD hS => ?_)
  have hP : va_P D vwCl [(d0, .inr (5, [.ref e0, .int 900, .int 0, .int 0, .int 0, .long 0, .int 0, .int 0, .int 0, .int 0, .int 0])), (e0, .inr (7, [.ref e1, .int 0]))] H := hP
  have hD : va_D A [(d0, .inr (5, [.ref e0, .int 900, .int 0, .int 0, .int 0, .long 0, .int 0, .int 0, .int 0, .int 0, .int 0])), (e0, .inr (7, [.ref e1, .int 0]))] := hD
  refine lv_aload_n hx hb dX7_step_63 rfl (lv_at hl 0 rfl) ?_
  refine lv_iconst (v := 0) hx hb dX7_step_64 (by decide) ?_
  refine va_put (D := D) (ci := 5) (v := .int 0) (ty := .int) (C := RX7) (T := TX7) (N := 11) hx hb hts inX7_step_X7 tyX7 tyX7_ok nmX7 hown hK hP hD hS 0 rfl rfl 7 (by decide) (hts (.fieldLink RX7 54 "RungMoney$Reader" "sign" "I") (by decide +kernel)) (fun _ h9 => h9) rfl (by decide +kernel) rfl rfl (Nat.le_of_ble_eq_true rfl) dX7_step_65 (fun H locs hP hD hS => ?_)
  have hP : va_P D vwCl [(d0, .inr (5, [.ref e0, .int 900, .int 0, .int 0, .int 0, .long 0, .int 0, .int 0, .int 0, .int 0, .int 0])), (e0, .inr (7, [.ref e1, .int 0]))] H := hP
  have hD : va_D A [(d0, .inr (5, [.ref e0, .int 900, .int 0, .int 0, .int 0, .long 0, .int 0, .int 0, .int 0, .int 0, .int 0])), (e0, .inr (7, [.ref e1, .int 0]))] := hD
  refine lv_aload_n hx hb dX7_step_68 rfl (lv_at hl 0 rfl) ?_
  refine va_get (D := D) (ci := 5) (v := .int 0) (C := RX7) (T := TX7) (N := 11) hx hb hts inX7_step_X7 hown hK hP 0 rfl rfl 3 (by decide) (hts (.fieldLink RX7 19 "RungMoney$Reader" "next" "I") (by decide +kernel)) (fun _ h9 => h9) rfl dX7_step_69 ?_
  refine lv_aload_n hx hb dX7_step_72 rfl (lv_at hl 0 rfl) ?_
  refine va_get (D := D) (ci := 5) (v := .int 900) (C := RX7) (T := TX7) (N := 11) hx hb hts inX7_step_X7 hown hK hP 0 rfl rfl 1 (by decide) (hts (.fieldLink RX7 15 "RungMoney$Reader" "most" "I") (by decide +kernel)) (fun _ h9 => h9) rfl dX7_step_73 ?_
  refine lv_icmp_lt (tgt := 109) hx hb dX7_step_76 (by decide) (fun _ => ?_) (fun h9 => absurd (by decide) h9)
  refine lv_aload_n hx hb dX7_step_109 rfl (lv_at hl 0 rfl) ?_
  refine va_get (D := D) (ci := 5) (v := .int 0) (C := RX7) (T := TX7) (N := 11) hx hb hts inX7_step_X7 hown hK hP 0 rfl rfl 3 (by decide) (hts (.fieldLink RX7 19 "RungMoney$Reader" "next" "I") (by decide +kernel)) (fun _ h9 => h9) rfl dX7_step_110 ?_
  refine lv_aload_n hx hb dX7_step_113 rfl (lv_at hl 0 rfl) ?_
  refine va_get (D := D) (ci := 5) (v := .ref e0) (C := RX7) (T := TX7) (N := 11) hx hb hts inX7_step_X7 hown hK hP 0 rfl rfl 0 (by decide) (hts (.fieldLink RX7 9 "RungMoney$Reader" "tape" "LRungMoney$Tape;") (by decide +kernel)) (fun _ h9 => h9) rfl dX7_step_114 ?_
  refine va_get (D := D) (ci := 7) (v := .int 0) (C := RX9) (T := TX9) (N := 2) hx hb hts inX7_step_X9 hown hK hP 1 rfl rfl 1 (by decide) (hts (.fieldLink RX7 31 "RungMoney$Tape" "size" "I") (by decide +kernel)) (fun _ h9 => h9) rfl dX7_step_117 ?_
  refine lv_icmp_lt (tgt := 131) hx hb dX7_step_120 (by decide) (fun h9 => absurd h9 (by decide)) (fun _ => ?_)
  refine lv_aload_n hx hb dX7_step_123 rfl (lv_at hl 0 rfl) ?_
  refine lv_iconst (v := 0) hx hb dX7_step_124 (by decide) ?_
  refine va_put (D := D) (ci := 5) (v := .int 0) (ty := .int) (C := RX7) (T := TX7) (N := 11) hx hb hts inX7_step_X7 tyX7 tyX7_ok nmX7 hown hK hP hD hS 0 rfl rfl 4 (by decide) (hts (.fieldLink RX7 57 "RungMoney$Reader" "kind" "I") (by decide +kernel)) (fun _ h9 => h9) rfl (by decide +kernel) rfl rfl (Nat.le_of_ble_eq_true rfl) dX7_step_125 (fun H locs hP hD hS => ?_)
  have hP : va_P D vwCl [(d0, .inr (5, [.ref e0, .int 900, .int 0, .int 0, .int 0, .long 0, .int 0, .int 0, .int 0, .int 0, .int 0])), (e0, .inr (7, [.ref e1, .int 0]))] H := hP
  have hD : va_D A [(d0, .inr (5, [.ref e0, .int 900, .int 0, .int 0, .int 0, .long 0, .int 0, .int 0, .int 0, .int 0, .int 0])), (e0, .inr (7, [.ref e1, .int 0]))] := hD
  refine lv_goto (tgt := 177) hx hb dX7_step_128 (by decide) ?_
  have hP := hP.sub (ws' := [(d0, .inr (5, [.ref e0, .int 900, .int 0, .int 0, .int 0, .long 0, .int 0, .int 0, .int 0, .int 0, .int 0])), (e0, .inr (7, [.ref e1, .int 0]))]) [0, 1] rfl
  have hD := hD.sub (ws' := [(d0, .inr (5, [.ref e0, .int 900, .int 0, .int 0, .int 0, .long 0, .int 0, .int 0, .int 0, .int 0, .int 0])), (e0, .inr (7, [.ref e1, .int 0]))]) [0, 1] (by decide) rfl
  exact g_vret hx hb hr hlocks hK (fun _ => 0) hP hD hS dX7_step_177 ⟨Nat.le_of_ble_eq_true rfl, Nat.le_of_ble_eq_true rfl⟩
set_option maxHeartbeats 4000000 in
set_option maxRecDepth 100000 in
theorem cR_step400 (l : Launch) (D : va_G) (k : Nat → ClassId) (d0 : Nat) (e0 : Nat) (e1 : Nat) : g_Cv l yX7_step wsX7_step ({ frames := 0, cells := 0, slots := 0, locals := 0 }) D k g_E0 [.ref d0] [(d0, .inr (5, [.ref e0, .int 400, .int 0, .int 0, .int 0, .long 0, .int 0, .int 0, .int 0, .int 0, .int 0])), (e0, .inr (7, [.ref e1, .int 0]))] (fun u => [(d0, .inr (5, [.ref e0, .int 400, .int 0, .int 0, .int 0, .long 0, .int 0, .int 0, .int 0, .int 0, .int 0])), (e0, .inr (7, [.ref e1, .int 0]))]) 0 0 := by
  intro sz
  refine Met.ofW (cc := cX7_step) (maxL := 1) (ret := none) (by decide) rfl ?_
  intro p e s m args below meth c s₁ B hml hv
  obtain ⟨rfl, hsz, hP, hK, hD0, hE⟩ := hv
  have hx := B.exec
  have hb := B.bytes
  have hr := B.returns
  have hts := atoms_spec (ws := wsX7_step) B.pre
  have hown : s.vm.findClass RX7 = some m.cls := findClass_of_methodNamed B.named
  have hlocks := B.notSynchronized
  subst hsz
  have hD := hD0.self (sz := s.heap.size)
  generalize hAe : va_A [(d0, .inr (5, [.ref e0, .int 400, .int 0, .int 0, .int 0, .long 0, .int 0, .int 0, .int 0, .int 0, .int 0])), (e0, .inr (7, [.ref e1, .int 0]))] s.heap.size = A at hD ⊢
  have hA : ∀ q : Nat, s.heap.size ≤ q → A q := fun q h => by rw [← hAe]; exact Or.inr h
  have hS : va_S A s.heap s.heap [] := va_S.rf
  have hP : va_P D vwCl [(d0, .inr (5, [.ref e0, .int 400, .int 0, .int 0, .int 0, .long 0, .int 0, .int 0, .int 0, .int 0, .int 0])), (e0, .inr (7, [.ref e1, .int 0]))] s.heap := hP
  have hl := lv_entry ([.ref d0]) (n := 1) (Nat.le_of_ble_eq_true rfl)
  rw [lg_entry_eq]
  generalize (lg_sl ([.ref d0]) ++ List.replicate (1 - (lg_sl ([.ref d0])).length) Slot.unset).toArray = ls at hl ⊢
  have hl : lv_has ls 1 [(0, .ref d0)] := hl
  refine lv_aload_n hx hb dX7_step_0 rfl (lv_at hl 0 rfl) ?_
  refine va_get (D := D) (ci := 5) (v := .int 0) (C := RX7) (T := TX7) (N := 11) hx hb hts inX7_step_X7 hown hK hP 0 rfl rfl 3 (by decide) (hts (.fieldLink RX7 19 "RungMoney$Reader" "next" "I") (by decide +kernel)) (fun _ h9 => h9) rfl dX7_step_1 ?_
  refine lv_aload_n hx hb dX7_step_4 rfl (lv_at hl 0 rfl) ?_
  refine va_get (D := D) (ci := 5) (v := .ref e0) (C := RX7) (T := TX7) (N := 11) hx hb hts inX7_step_X7 hown hK hP 0 rfl rfl 0 (by decide) (hts (.fieldLink RX7 9 "RungMoney$Reader" "tape" "LRungMoney$Tape;") (by decide +kernel)) (fun _ h9 => h9) rfl dX7_step_5 ?_
  refine va_get (D := D) (ci := 7) (v := .int 0) (C := RX9) (T := TX9) (N := 2) hx hb hts inX7_step_X9 hown hK hP 1 rfl rfl 1 (by decide) (hts (.fieldLink RX7 31 "RungMoney$Tape" "size" "I") (by decide +kernel)) (fun _ h9 => h9) rfl dX7_step_8 ?_
  refine lv_icmp_ge (tgt := 45) hx hb dX7_step_11 (by decide) (fun _ => ?_) (fun h9 => absurd (by decide) h9)
  refine lv_aload_n hx hb dX7_step_45 rfl (lv_at hl 0 rfl) ?_
  refine lv_aload_n hx hb dX7_step_46 rfl (lv_at hl 0 rfl) ?_
  refine va_get (D := D) (ci := 5) (v := .int 0) (C := RX7) (T := TX7) (N := 11) hx hb hts inX7_step_X7 hown hK hP 0 rfl rfl 3 (by decide) (hts (.fieldLink RX7 19 "RungMoney$Reader" "next" "I") (by decide +kernel)) (fun _ h9 => h9) rfl dX7_step_47 ?_
  refine va_put (D := D) (ci := 5) (v := .int 0) (ty := .int) (C := RX7) (T := TX7) (N := 11) hx hb hts inX7_step_X7 tyX7 tyX7_ok nmX7 hown hK hP hD hS 0 rfl rfl 2 (by decide) (hts (.fieldLink RX7 44 "RungMoney$Reader" "at" "I") (by decide +kernel)) (fun _ h9 => h9) rfl (by decide +kernel) rfl rfl (Nat.le_of_ble_eq_true rfl) dX7_step_50 (fun H locs hP hD hS => ?_)
  have hP : va_P D vwCl [(d0, .inr (5, [.ref e0, .int 400, .int 0, .int 0, .int 0, .long 0, .int 0, .int 0, .int 0, .int 0, .int 0])), (e0, .inr (7, [.ref e1, .int 0]))] H := hP
  have hD : va_D A [(d0, .inr (5, [.ref e0, .int 400, .int 0, .int 0, .int 0, .long 0, .int 0, .int 0, .int 0, .int 0, .int 0])), (e0, .inr (7, [.ref e1, .int 0]))] := hD
  refine lv_aload_n hx hb dX7_step_53 rfl (lv_at hl 0 rfl) ?_
  refine lv_lconst (v := 0) hx hb dX7_step_54 (by decide) ?_
  refine va_put (D := D) (ci := 5) (v := .long 0) (ty := .long) (C := RX7) (T := TX7) (N := 11) hx hb hts inX7_step_X7 tyX7 tyX7_ok nmX7 hown hK hP hD hS 0 rfl rfl 5 (by decide) (hts (.fieldLink RX7 47 "RungMoney$Reader" "word" "J") (by decide +kernel)) (fun _ h9 => h9) rfl (by decide +kernel) rfl rfl (Nat.le_of_ble_eq_true rfl) dX7_step_55 (fun H locs hP hD hS => ?_)
  have hP : va_P D vwCl [(d0, .inr (5, [.ref e0, .int 400, .int 0, .int 0, .int 0, .long 0, .int 0, .int 0, .int 0, .int 0, .int 0])), (e0, .inr (7, [.ref e1, .int 0]))] H := hP
  have hD : va_D A [(d0, .inr (5, [.ref e0, .int 400, .int 0, .int 0, .int 0, .long 0, .int 0, .int 0, .int 0, .int 0, .int 0])), (e0, .inr (7, [.ref e1, .int 0]))] := hD
  refine lv_aload_n hx hb dX7_step_58 rfl (lv_at hl 0 rfl) ?_
  refine lv_iconst (v := 0) hx hb dX7_step_59 (by decide) ?_
  refine va_put (D := D) (ci := 5) (v := .int 0) (ty := .int) (C := RX7) (T := TX7) (N := 11) hx hb hts inX7_step_X7 tyX7 tyX7_ok nmX7 hown hK hP hD hS 0 rfl rfl 6 (by decide) (hts (.fieldLink RX7 51 "RungMoney$Reader" "number" "I") (by decide +kernel)) (fun _ h9 => h9) rfl (by decide +kernel) rfl rfl (Nat.le_of_ble_eq_true rfl) dX7_step_60 (fun H locs hP hD hS => ?_)
  have hP : va_P D vwCl [(d0, .inr (5, [.ref e0, .int 400, .int 0, .int 0, .int 0, .long 0, .int 0, .int 0, .int 0, .int 0, .int 0])), (e0, .inr (7, [.ref e1, .int 0]))] H := hP
  have hD : va_D A [(d0, .inr (5, [.ref e0, .int 400, .int 0, .int 0, .int 0, .long 0, .int 0, .int 0, .int 0, .int 0, .int 0])), (e0, .inr (7, [.ref e1, .int 0]))] := hD
  refine lv_aload_n hx hb dX7_step_63 rfl (lv_at hl 0 rfl) ?_
  refine lv_iconst (v := 0) hx hb dX7_step_64 (by decide) ?_
  refine va_put (D := D) (ci := 5) (v := .int 0) (ty := .int) (C := RX7) (T := TX7) (N := 11) hx hb hts inX7_step_X7 tyX7 tyX7_ok nmX7 hown hK hP hD hS 0 rfl rfl 7 (by decide) (hts (.fieldLink RX7 54 "RungMoney$Reader" "sign" "I") (by decide +kernel)) (fun _ h9 => h9) rfl (by decide +kernel) rfl rfl (Nat.le_of_ble_eq_true rfl) dX7_step_65 (fun H locs hP hD hS => ?_)
  have hP : va_P D vwCl [(d0, .inr (5, [.ref e0, .int 400, .int 0, .int 0, .int 0, .long 0, .int 0, .int 0, .int 0, .int 0, .int 0])), (e0, .inr (7, [.ref e1, .int 0]))] H := hP
  have hD : va_D A [(d0, .inr (5, [.ref e0, .int 400, .int 0, .int 0, .int 0, .long 0, .int 0, .int 0, .int 0, .int 0, .int 0])), (e0, .inr (7, [.ref e1, .int 0]))] := hD
  refine lv_aload_n hx hb dX7_step_68 rfl (lv_at hl 0 rfl) ?_
  refine va_get (D := D) (ci := 5) (v := .int 0) (C := RX7) (T := TX7) (N := 11) hx hb hts inX7_step_X7 hown hK hP 0 rfl rfl 3 (by decide) (hts (.fieldLink RX7 19 "RungMoney$Reader" "next" "I") (by decide +kernel)) (fun _ h9 => h9) rfl dX7_step_69 ?_
  refine lv_aload_n hx hb dX7_step_72 rfl (lv_at hl 0 rfl) ?_
  refine va_get (D := D) (ci := 5) (v := .int 400) (C := RX7) (T := TX7) (N := 11) hx hb hts inX7_step_X7 hown hK hP 0 rfl rfl 1 (by decide) (hts (.fieldLink RX7 15 "RungMoney$Reader" "most" "I") (by decide +kernel)) (fun _ h9 => h9) rfl dX7_step_73 ?_
  refine lv_icmp_lt (tgt := 109) hx hb dX7_step_76 (by decide) (fun _ => ?_) (fun h9 => absurd (by decide) h9)
  refine lv_aload_n hx hb dX7_step_109 rfl (lv_at hl 0 rfl) ?_
  refine va_get (D := D) (ci := 5) (v := .int 0) (C := RX7) (T := TX7) (N := 11) hx hb hts inX7_step_X7 hown hK hP 0 rfl rfl 3 (by decide) (hts (.fieldLink RX7 19 "RungMoney$Reader" "next" "I") (by decide +kernel)) (fun _ h9 => h9) rfl dX7_step_110 ?_
  refine lv_aload_n hx hb dX7_step_113 rfl (lv_at hl 0 rfl) ?_
  refine va_get (D := D) (ci := 5) (v := .ref e0) (C := RX7) (T := TX7) (N := 11) hx hb hts inX7_step_X7 hown hK hP 0 rfl rfl 0 (by decide) (hts (.fieldLink RX7 9 "RungMoney$Reader" "tape" "LRungMoney$Tape;") (by decide +kernel)) (fun _ h9 => h9) rfl dX7_step_114 ?_
  refine va_get (D := D) (ci := 7) (v := .int 0) (C := RX9) (T := TX9) (N := 2) hx hb hts inX7_step_X9 hown hK hP 1 rfl rfl 1 (by decide) (hts (.fieldLink RX7 31 "RungMoney$Tape" "size" "I") (by decide +kernel)) (fun _ h9 => h9) rfl dX7_step_117 ?_
  refine lv_icmp_lt (tgt := 131) hx hb dX7_step_120 (by decide) (fun h9 => absurd h9 (by decide)) (fun _ => ?_)
  refine lv_aload_n hx hb dX7_step_123 rfl (lv_at hl 0 rfl) ?_
  refine lv_iconst (v := 0) hx hb dX7_step_124 (by decide) ?_
  refine va_put (D := D) (ci := 5) (v := .int 0) (ty := .int) (C := RX7) (T := TX7) (N := 11) hx hb hts inX7_step_X7 tyX7 tyX7_ok nmX7 hown hK hP hD hS 0 rfl rfl 4 (by decide) (hts (.fieldLink RX7 57 "RungMoney$Reader" "kind" "I") (by decide +kernel)) (fun _ h9 => h9) rfl (by decide +kernel) rfl rfl (Nat.le_of_ble_eq_true rfl) dX7_step_125 (fun H locs hP hD hS => ?_)
  have hP : va_P D vwCl [(d0, .inr (5, [.ref e0, .int 400, .int 0, .int 0, .int 0, .long 0, .int 0, .int 0, .int 0, .int 0, .int 0])), (e0, .inr (7, [.ref e1, .int 0]))] H := hP
  have hD : va_D A [(d0, .inr (5, [.ref e0, .int 400, .int 0, .int 0, .int 0, .long 0, .int 0, .int 0, .int 0, .int 0, .int 0])), (e0, .inr (7, [.ref e1, .int 0]))] := hD
  refine lv_goto (tgt := 177) hx hb dX7_step_128 (by decide) ?_
  have hP := hP.sub (ws' := [(d0, .inr (5, [.ref e0, .int 400, .int 0, .int 0, .int 0, .long 0, .int 0, .int 0, .int 0, .int 0, .int 0])), (e0, .inr (7, [.ref e1, .int 0]))]) [0, 1] rfl
  have hD := hD.sub (ws' := [(d0, .inr (5, [.ref e0, .int 400, .int 0, .int 0, .int 0, .long 0, .int 0, .int 0, .int 0, .int 0, .int 0])), (e0, .inr (7, [.ref e1, .int 0]))]) [0, 1] (by decide) rfl
  exact g_vret hx hb hr hlocks hK (fun _ => 0) hP hD hS dX7_step_177 ⟨Nat.le_of_ble_eq_true rfl, Nat.le_of_ble_eq_true rfl⟩
set_option maxHeartbeats 4000000 in
set_option maxRecDepth 100000 in
theorem cR_step200 (l : Launch) (D : va_G) (k : Nat → ClassId) (d0 : Nat) (e0 : Nat) (e1 : Nat) : g_Cv l yX7_step wsX7_step ({ frames := 0, cells := 0, slots := 0, locals := 0 }) D k g_E0 [.ref d0] [(d0, .inr (5, [.ref e0, .int 200, .int 0, .int 0, .int 0, .long 0, .int 0, .int 0, .int 0, .int 0, .int 0])), (e0, .inr (7, [.ref e1, .int 0]))] (fun u => [(d0, .inr (5, [.ref e0, .int 200, .int 0, .int 0, .int 0, .long 0, .int 0, .int 0, .int 0, .int 0, .int 0])), (e0, .inr (7, [.ref e1, .int 0]))]) 0 0 := by
  intro sz
  refine Met.ofW (cc := cX7_step) (maxL := 1) (ret := none) (by decide) rfl ?_
  intro p e s m args below meth c s₁ B hml hv
  obtain ⟨rfl, hsz, hP, hK, hD0, hE⟩ := hv
  have hx := B.exec
  have hb := B.bytes
  have hr := B.returns
  have hts := atoms_spec (ws := wsX7_step) B.pre
  have hown : s.vm.findClass RX7 = some m.cls := findClass_of_methodNamed B.named
  have hlocks := B.notSynchronized
  subst hsz
  have hD := hD0.self (sz := s.heap.size)
  generalize hAe : va_A [(d0, .inr (5, [.ref e0, .int 200, .int 0, .int 0, .int 0, .long 0, .int 0, .int 0, .int 0, .int 0, .int 0])), (e0, .inr (7, [.ref e1, .int 0]))] s.heap.size = A at hD ⊢
  have hA : ∀ q : Nat, s.heap.size ≤ q → A q := fun q h => by rw [← hAe]; exact Or.inr h
  have hS : va_S A s.heap s.heap [] := va_S.rf
  have hP : va_P D vwCl [(d0, .inr (5, [.ref e0, .int 200, .int 0, .int 0, .int 0, .long 0, .int 0, .int 0, .int 0, .int 0, .int 0])), (e0, .inr (7, [.ref e1, .int 0]))] s.heap := hP
  have hl := lv_entry ([.ref d0]) (n := 1) (Nat.le_of_ble_eq_true rfl)
  rw [lg_entry_eq]
  generalize (lg_sl ([.ref d0]) ++ List.replicate (1 - (lg_sl ([.ref d0])).length) Slot.unset).toArray = ls at hl ⊢
  have hl : lv_has ls 1 [(0, .ref d0)] := hl
  refine lv_aload_n hx hb dX7_step_0 rfl (lv_at hl 0 rfl) ?_
  refine va_get (D := D) (ci := 5) (v := .int 0) (C := RX7) (T := TX7) (N := 11) hx hb hts inX7_step_X7 hown hK hP 0 rfl rfl 3 (by decide) (hts (.fieldLink RX7 19 "RungMoney$Reader" "next" "I") (by decide +kernel)) (fun _ h9 => h9) rfl dX7_step_1 ?_
  refine lv_aload_n hx hb dX7_step_4 rfl (lv_at hl 0 rfl) ?_
  refine va_get (D := D) (ci := 5) (v := .ref e0) (C := RX7) (T := TX7) (N := 11) hx hb hts inX7_step_X7 hown hK hP 0 rfl rfl 0 (by decide) (hts (.fieldLink RX7 9 "RungMoney$Reader" "tape" "LRungMoney$Tape;") (by decide +kernel)) (fun _ h9 => h9) rfl dX7_step_5 ?_
  refine va_get (D := D) (ci := 7) (v := .int 0) (C := RX9) (T := TX9) (N := 2) hx hb hts inX7_step_X9 hown hK hP 1 rfl rfl 1 (by decide) (hts (.fieldLink RX7 31 "RungMoney$Tape" "size" "I") (by decide +kernel)) (fun _ h9 => h9) rfl dX7_step_8 ?_
  refine lv_icmp_ge (tgt := 45) hx hb dX7_step_11 (by decide) (fun _ => ?_) (fun h9 => absurd (by decide) h9)
  refine lv_aload_n hx hb dX7_step_45 rfl (lv_at hl 0 rfl) ?_
  refine lv_aload_n hx hb dX7_step_46 rfl (lv_at hl 0 rfl) ?_
  refine va_get (D := D) (ci := 5) (v := .int 0) (C := RX7) (T := TX7) (N := 11) hx hb hts inX7_step_X7 hown hK hP 0 rfl rfl 3 (by decide) (hts (.fieldLink RX7 19 "RungMoney$Reader" "next" "I") (by decide +kernel)) (fun _ h9 => h9) rfl dX7_step_47 ?_
  refine va_put (D := D) (ci := 5) (v := .int 0) (ty := .int) (C := RX7) (T := TX7) (N := 11) hx hb hts inX7_step_X7 tyX7 tyX7_ok nmX7 hown hK hP hD hS 0 rfl rfl 2 (by decide) (hts (.fieldLink RX7 44 "RungMoney$Reader" "at" "I") (by decide +kernel)) (fun _ h9 => h9) rfl (by decide +kernel) rfl rfl (Nat.le_of_ble_eq_true rfl) dX7_step_50 (fun H locs hP hD hS => ?_)
  have hP : va_P D vwCl [(d0, .inr (5, [.ref e0, .int 200, .int 0, .int 0, .int 0, .long 0, .int 0, .int 0, .int 0, .int 0, .int 0])), (e0, .inr (7, [.ref e1, .int 0]))] H := hP
  have hD : va_D A [(d0, .inr (5, [.ref e0, .int 200, .int 0, .int 0, .int 0, .long 0, .int 0, .int 0, .int 0, .int 0, .int 0])), (e0, .inr (7, [.ref e1, .int 0]))] := hD
  refine lv_aload_n hx hb dX7_step_53 rfl (lv_at hl 0 rfl) ?_
  refine lv_lconst (v := 0) hx hb dX7_step_54 (by decide) ?_
  refine va_put (D := D) (ci := 5) (v := .long 0) (ty := .long) (C := RX7) (T := TX7) (N := 11) hx hb hts inX7_step_X7 tyX7 tyX7_ok nmX7 hown hK hP hD hS 0 rfl rfl 5 (by decide) (hts (.fieldLink RX7 47 "RungMoney$Reader" "word" "J") (by decide +kernel)) (fun _ h9 => h9) rfl (by decide +kernel) rfl rfl (Nat.le_of_ble_eq_true rfl) dX7_step_55 (fun H locs hP hD hS => ?_)
  have hP : va_P D vwCl [(d0, .inr (5, [.ref e0, .int 200, .int 0, .int 0, .int 0, .long 0, .int 0, .int 0, .int 0, .int 0, .int 0])), (e0, .inr (7, [.ref e1, .int 0]))] H := hP
  have hD : va_D A [(d0, .inr (5, [.ref e0, .int 200, .int 0, .int 0, .int 0, .long 0, .int 0, .int 0, .int 0, .int 0, .int 0])), (e0, .inr (7, [.ref e1, .int 0]))] := hD
  refine lv_aload_n hx hb dX7_step_58 rfl (lv_at hl 0 rfl) ?_
  refine lv_iconst (v := 0) hx hb dX7_step_59 (by decide) ?_
  refine va_put (D := D) (ci := 5) (v := .int 0) (ty := .int) (C := RX7) (T := TX7) (N := 11) hx hb hts inX7_step_X7 tyX7 tyX7_ok nmX7 hown hK hP hD hS 0 rfl rfl 6 (by decide) (hts (.fieldLink RX7 51 "RungMoney$Reader" "number" "I") (by decide +kernel)) (fun _ h9 => h9) rfl (by decide +kernel) rfl rfl (Nat.le_of_ble_eq_true rfl) dX7_step_60 (fun H locs hP hD hS => ?_)
  have hP : va_P D vwCl [(d0, .inr (5, [.ref e0, .int 200, .int 0, .int 0, .int 0, .long 0, .int 0, .int 0, .int 0, .int 0, .int 0])), (e0, .inr (7, [.ref e1, .int 0]))] H := hP
  have hD : va_D A [(d0, .inr (5, [.ref e0, .int 200, .int 0, .int 0, .int 0, .long 0, .int 0, .int 0, .int 0, .int 0, .int 0])), (e0, .inr (7, [.ref e1, .int 0]))] := hD
  refine lv_aload_n hx hb dX7_step_63 rfl (lv_at hl 0 rfl) ?_
  refine lv_iconst (v := 0) hx hb dX7_step_64 (by decide) ?_
  refine va_put (D := D) (ci := 5) (v := .int 0) (ty := .int) (C := RX7) (T := TX7) (N := 11) hx hb hts inX7_step_X7 tyX7 tyX7_ok nmX7 hown hK hP hD hS 0 rfl rfl 7 (by decide) (hts (.fieldLink RX7 54 "RungMoney$Reader" "sign" "I") (by decide +kernel)) (fun _ h9 => h9) rfl (by decide +kernel) rfl rfl (Nat.le_of_ble_eq_true rfl) dX7_step_65 (fun H locs hP hD hS => ?_)
  have hP : va_P D vwCl [(d0, .inr (5, [.ref e0, .int 200, .int 0, .int 0, .int 0, .long 0, .int 0, .int 0, .int 0, .int 0, .int 0])), (e0, .inr (7, [.ref e1, .int 0]))] H := hP
  have hD : va_D A [(d0, .inr (5, [.ref e0, .int 200, .int 0, .int 0, .int 0, .long 0, .int 0, .int 0, .int 0, .int 0, .int 0])), (e0, .inr (7, [.ref e1, .int 0]))] := hD
  refine lv_aload_n hx hb dX7_step_68 rfl (lv_at hl 0 rfl) ?_
  refine va_get (D := D) (ci := 5) (v := .int 0) (C := RX7) (T := TX7) (N := 11) hx hb hts inX7_step_X7 hown hK hP 0 rfl rfl 3 (by decide) (hts (.fieldLink RX7 19 "RungMoney$Reader" "next" "I") (by decide +kernel)) (fun _ h9 => h9) rfl dX7_step_69 ?_
  refine lv_aload_n hx hb dX7_step_72 rfl (lv_at hl 0 rfl) ?_
  refine va_get (D := D) (ci := 5) (v := .int 200) (C := RX7) (T := TX7) (N := 11) hx hb hts inX7_step_X7 hown hK hP 0 rfl rfl 1 (by decide) (hts (.fieldLink RX7 15 "RungMoney$Reader" "most" "I") (by decide +kernel)) (fun _ h9 => h9) rfl dX7_step_73 ?_
  refine lv_icmp_lt (tgt := 109) hx hb dX7_step_76 (by decide) (fun _ => ?_) (fun h9 => absurd (by decide) h9)
  refine lv_aload_n hx hb dX7_step_109 rfl (lv_at hl 0 rfl) ?_
  refine va_get (D := D) (ci := 5) (v := .int 0) (C := RX7) (T := TX7) (N := 11) hx hb hts inX7_step_X7 hown hK hP 0 rfl rfl 3 (by decide) (hts (.fieldLink RX7 19 "RungMoney$Reader" "next" "I") (by decide +kernel)) (fun _ h9 => h9) rfl dX7_step_110 ?_
  refine lv_aload_n hx hb dX7_step_113 rfl (lv_at hl 0 rfl) ?_
  refine va_get (D := D) (ci := 5) (v := .ref e0) (C := RX7) (T := TX7) (N := 11) hx hb hts inX7_step_X7 hown hK hP 0 rfl rfl 0 (by decide) (hts (.fieldLink RX7 9 "RungMoney$Reader" "tape" "LRungMoney$Tape;") (by decide +kernel)) (fun _ h9 => h9) rfl dX7_step_114 ?_
  refine va_get (D := D) (ci := 7) (v := .int 0) (C := RX9) (T := TX9) (N := 2) hx hb hts inX7_step_X9 hown hK hP 1 rfl rfl 1 (by decide) (hts (.fieldLink RX7 31 "RungMoney$Tape" "size" "I") (by decide +kernel)) (fun _ h9 => h9) rfl dX7_step_117 ?_
  refine lv_icmp_lt (tgt := 131) hx hb dX7_step_120 (by decide) (fun h9 => absurd h9 (by decide)) (fun _ => ?_)
  refine lv_aload_n hx hb dX7_step_123 rfl (lv_at hl 0 rfl) ?_
  refine lv_iconst (v := 0) hx hb dX7_step_124 (by decide) ?_
  refine va_put (D := D) (ci := 5) (v := .int 0) (ty := .int) (C := RX7) (T := TX7) (N := 11) hx hb hts inX7_step_X7 tyX7 tyX7_ok nmX7 hown hK hP hD hS 0 rfl rfl 4 (by decide) (hts (.fieldLink RX7 57 "RungMoney$Reader" "kind" "I") (by decide +kernel)) (fun _ h9 => h9) rfl (by decide +kernel) rfl rfl (Nat.le_of_ble_eq_true rfl) dX7_step_125 (fun H locs hP hD hS => ?_)
  have hP : va_P D vwCl [(d0, .inr (5, [.ref e0, .int 200, .int 0, .int 0, .int 0, .long 0, .int 0, .int 0, .int 0, .int 0, .int 0])), (e0, .inr (7, [.ref e1, .int 0]))] H := hP
  have hD : va_D A [(d0, .inr (5, [.ref e0, .int 200, .int 0, .int 0, .int 0, .long 0, .int 0, .int 0, .int 0, .int 0, .int 0])), (e0, .inr (7, [.ref e1, .int 0]))] := hD
  refine lv_goto (tgt := 177) hx hb dX7_step_128 (by decide) ?_
  have hP := hP.sub (ws' := [(d0, .inr (5, [.ref e0, .int 200, .int 0, .int 0, .int 0, .long 0, .int 0, .int 0, .int 0, .int 0, .int 0])), (e0, .inr (7, [.ref e1, .int 0]))]) [0, 1] rfl
  have hD := hD.sub (ws' := [(d0, .inr (5, [.ref e0, .int 200, .int 0, .int 0, .int 0, .long 0, .int 0, .int 0, .int 0, .int 0, .int 0])), (e0, .inr (7, [.ref e1, .int 0]))]) [0, 1] (by decide) rfl
  exact g_vret hx hb hr hlocks hK (fun _ => 0) hP hD hS dX7_step_177 ⟨Nat.le_of_ble_eq_true rfl, Nat.le_of_ble_eq_true rfl⟩
set_option maxHeartbeats 4000000 in
set_option maxRecDepth 100000 in
theorem cR_open900 (l : Launch) (D : va_G) (k : Nat → ClassId) (d0 : Nat) (e0 : Nat) (e1 : Nat) : g_Cv l yX7_open wsX7_open ({ frames := 1, cells := 0, slots := 0, locals := 20 }) D k g_E0 [.ref d0, .int 900] [(d0, .inr (5, [.ref e0, .int 0, .int 0, .int 0, .int 0, .long 0, .int 0, .int 0, .int 0, .int 0, .int 0])), (e0, .inr (7, [.ref e1, .int 0]))] (fun u => [(d0, .inr (5, [.ref e0, .int 900, .int 0, .int 0, .int 0, .long 0, .int 0, .int 0, .int 0, .int 0, .int 0])), (e0, .inr (7, [.ref e1, .int 0]))]) 0 0 := by
  intro sz
  refine Met.ofW (cc := cX7_open) (maxL := 2) (ret := none) (by decide) rfl ?_
  intro p e s m args below meth c s₁ B hml hv
  obtain ⟨rfl, hsz, hP, hK, hD0, hE⟩ := hv
  have hx := B.exec
  have hb := B.bytes
  have hr := B.returns
  have hts := atoms_spec (ws := wsX7_open) B.pre
  have hown : s.vm.findClass RX7 = some m.cls := findClass_of_methodNamed B.named
  have hlocks := B.notSynchronized
  subst hsz
  have hD := hD0.self (sz := s.heap.size)
  generalize hAe : va_A [(d0, .inr (5, [.ref e0, .int 0, .int 0, .int 0, .int 0, .long 0, .int 0, .int 0, .int 0, .int 0, .int 0])), (e0, .inr (7, [.ref e1, .int 0]))] s.heap.size = A at hD ⊢
  have hA : ∀ q : Nat, s.heap.size ≤ q → A q := fun q h => by rw [← hAe]; exact Or.inr h
  have hS : va_S A s.heap s.heap [] := va_S.rf
  have hP : va_P D vwCl [(d0, .inr (5, [.ref e0, .int 0, .int 0, .int 0, .int 0, .long 0, .int 0, .int 0, .int 0, .int 0, .int 0])), (e0, .inr (7, [.ref e1, .int 0]))] s.heap := hP
  have hl := lv_entry ([.ref d0, .int 900]) (n := 2) (Nat.le_of_ble_eq_true rfl)
  rw [lg_entry_eq]
  generalize (lg_sl ([.ref d0, .int 900]) ++ List.replicate (2 - (lg_sl ([.ref d0, .int 900])).length) Slot.unset).toArray = ls at hl ⊢
  have hl : lv_has ls 2 [(0, .ref d0), (1, .int 900)] := hl
  refine lv_aload_n hx hb dX7_open_0 rfl (lv_at hl 0 rfl) ?_
  refine lv_iload_n hx hb dX7_open_1 rfl (lv_at hl 1 rfl) ?_
  refine va_put (D := D) (ci := 5) (v := .int 900) (ty := .int) (C := RX7) (T := TX7) (N := 11) hx hb hts inX7_open_X7 tyX7 tyX7_ok nmX7 hown hK hP hD hS 0 rfl rfl 1 (by decide) (hts (.fieldLink RX7 15 "RungMoney$Reader" "most" "I") (by decide +kernel)) (fun _ h9 => h9) rfl (by decide +kernel) rfl rfl (Nat.le_of_ble_eq_true rfl) dX7_open_2 (fun H locs hP hD hS => ?_)
  have hP : va_P D vwCl [(d0, .inr (5, [.ref e0, .int 900, .int 0, .int 0, .int 0, .long 0, .int 0, .int 0, .int 0, .int 0, .int 0])), (e0, .inr (7, [.ref e1, .int 0]))] H := hP
  have hD : va_D A [(d0, .inr (5, [.ref e0, .int 900, .int 0, .int 0, .int 0, .long 0, .int 0, .int 0, .int 0, .int 0, .int 0])), (e0, .inr (7, [.ref e1, .int 0]))] := hD
  refine lv_aload_n hx hb dX7_open_5 rfl (lv_at hl 0 rfl) ?_
  refine lv_iconst (v := 0) hx hb dX7_open_6 (by decide) ?_
  refine va_put (D := D) (ci := 5) (v := .int 0) (ty := .int) (C := RX7) (T := TX7) (N := 11) hx hb hts inX7_open_X7 tyX7 tyX7_ok nmX7 hown hK hP hD hS 0 rfl rfl 3 (by decide) (hts (.fieldLink RX7 19 "RungMoney$Reader" "next" "I") (by decide +kernel)) (fun _ h9 => h9) rfl (by decide +kernel) rfl rfl (Nat.le_of_ble_eq_true rfl) dX7_open_7 (fun H locs hP hD hS => ?_)
  have hP : va_P D vwCl [(d0, .inr (5, [.ref e0, .int 900, .int 0, .int 0, .int 0, .long 0, .int 0, .int 0, .int 0, .int 0, .int 0])), (e0, .inr (7, [.ref e1, .int 0]))] H := hP
  have hD : va_D A [(d0, .inr (5, [.ref e0, .int 900, .int 0, .int 0, .int 0, .long 0, .int 0, .int 0, .int 0, .int 0, .int 0])), (e0, .inr (7, [.ref e1, .int 0]))] := hD
  refine lv_aload_n hx hb dX7_open_10 rfl (lv_at hl 0 rfl) ?_
  refine lv_iconst (v := 0) hx hb dX7_open_11 (by decide) ?_
  refine va_put (D := D) (ci := 5) (v := .int 0) (ty := .int) (C := RX7) (T := TX7) (N := 11) hx hb hts inX7_open_X7 tyX7 tyX7_ok nmX7 hown hK hP hD hS 0 rfl rfl 9 (by decide) (hts (.fieldLink RX7 22 "RungMoney$Reader" "fault" "I") (by decide +kernel)) (fun _ h9 => h9) rfl (by decide +kernel) rfl rfl (Nat.le_of_ble_eq_true rfl) dX7_open_12 (fun H locs hP hD hS => ?_)
  have hP : va_P D vwCl [(d0, .inr (5, [.ref e0, .int 900, .int 0, .int 0, .int 0, .long 0, .int 0, .int 0, .int 0, .int 0, .int 0])), (e0, .inr (7, [.ref e1, .int 0]))] H := hP
  have hD : va_D A [(d0, .inr (5, [.ref e0, .int 900, .int 0, .int 0, .int 0, .long 0, .int 0, .int 0, .int 0, .int 0, .int 0])), (e0, .inr (7, [.ref e1, .int 0]))] := hD
  refine lv_aload_n hx hb dX7_open_15 rfl (lv_at hl 0 rfl) ?_
  refine lv_iconst (v := 0) hx hb dX7_open_16 (by decide) ?_
  refine va_put (D := D) (ci := 5) (v := .int 0) (ty := .int) (C := RX7) (T := TX7) (N := 11) hx hb hts inX7_open_X7 tyX7 tyX7_ok nmX7 hown hK hP hD hS 0 rfl rfl 10 (by decide) (hts (.fieldLink RX7 25 "RungMoney$Reader" "place" "I") (by decide +kernel)) (fun _ h9 => h9) rfl (by decide +kernel) rfl rfl (Nat.le_of_ble_eq_true rfl) dX7_open_17 (fun H locs hP hD hS => ?_)
  have hP : va_P D vwCl [(d0, .inr (5, [.ref e0, .int 900, .int 0, .int 0, .int 0, .long 0, .int 0, .int 0, .int 0, .int 0, .int 0])), (e0, .inr (7, [.ref e1, .int 0]))] H := hP
  have hD : va_D A [(d0, .inr (5, [.ref e0, .int 900, .int 0, .int 0, .int 0, .long 0, .int 0, .int 0, .int 0, .int 0, .int 0])), (e0, .inr (7, [.ref e1, .int 0]))] := hD
  refine lv_aload_n hx hb dX7_open_20 rfl (lv_at hl 0 rfl) ?_
  refine g_vV (As := []) (rest := []) (wr := []) ⟨hx, hb, hml, hown, hts⟩ (cR_step900 l D k d0 e0 e1) (cwV 0 hts gX7_open_X7_step rfl rfl rfl (by decide +kernel) ⟨Nat.le_of_ble_eq_true rfl, Nat.le_of_ble_eq_true rfl⟩) g_E0_ok (fun _ _ _ => trivial) hK hP hD hS hA 0 5 rfl rfl rfl [0, 1] [] rfl rfl (by decide) rfl hl.1 rfl (Nat.le_of_ble_eq_true rfl) dX7_open_21 ⟨Nat.le_of_ble_eq_true rfl, Nat.le_of_ble_eq_true rfl⟩ (fun u1 H locs hP hD hS => ?_)
  have hP : va_P D vwCl [(d0, .inr (5, [.ref e0, .int 900, .int 0, .int 0, .int 0, .long 0, .int 0, .int 0, .int 0, .int 0, .int 0])), (e0, .inr (7, [.ref e1, .int 0]))] H := hP
  have hD : va_D A [(d0, .inr (5, [.ref e0, .int 900, .int 0, .int 0, .int 0, .long 0, .int 0, .int 0, .int 0, .int 0, .int 0])), (e0, .inr (7, [.ref e1, .int 0]))] := hD
  have hP := hP.sub (ws' := [(d0, .inr (5, [.ref e0, .int 900, .int 0, .int 0, .int 0, .long 0, .int 0, .int 0, .int 0, .int 0, .int 0])), (e0, .inr (7, [.ref e1, .int 0]))]) [0, 1] rfl
  have hD := hD.sub (ws' := [(d0, .inr (5, [.ref e0, .int 900, .int 0, .int 0, .int 0, .long 0, .int 0, .int 0, .int 0, .int 0, .int 0])), (e0, .inr (7, [.ref e1, .int 0]))]) [0, 1] (by decide) rfl
  exact g_vret hx hb hr hlocks hK (fun _ => 0) hP hD hS dX7_open_24 ⟨Nat.le_of_ble_eq_true rfl, Nat.le_of_ble_eq_true rfl⟩
set_option maxHeartbeats 4000000 in
set_option maxRecDepth 100000 in
theorem cR_open400 (l : Launch) (D : va_G) (k : Nat → ClassId) (d0 : Nat) (e0 : Nat) (e1 : Nat) : g_Cv l yX7_open wsX7_open ({ frames := 1, cells := 0, slots := 0, locals := 20 }) D k g_E0 [.ref d0, .int 400] [(d0, .inr (5, [.ref e0, .int 0, .int 0, .int 0, .int 0, .long 0, .int 0, .int 0, .int 0, .int 0, .int 0])), (e0, .inr (7, [.ref e1, .int 0]))] (fun u => [(d0, .inr (5, [.ref e0, .int 400, .int 0, .int 0, .int 0, .long 0, .int 0, .int 0, .int 0, .int 0, .int 0])), (e0, .inr (7, [.ref e1, .int 0]))]) 0 0 := by
  intro sz
  refine Met.ofW (cc := cX7_open) (maxL := 2) (ret := none) (by decide) rfl ?_
  intro p e s m args below meth c s₁ B hml hv
  obtain ⟨rfl, hsz, hP, hK, hD0, hE⟩ := hv
  have hx := B.exec
  have hb := B.bytes
  have hr := B.returns
  have hts := atoms_spec (ws := wsX7_open) B.pre
  have hown : s.vm.findClass RX7 = some m.cls := findClass_of_methodNamed B.named
  have hlocks := B.notSynchronized
  subst hsz
  have hD := hD0.self (sz := s.heap.size)
  generalize hAe : va_A [(d0, .inr (5, [.ref e0, .int 0, .int 0, .int 0, .int 0, .long 0, .int 0, .int 0, .int 0, .int 0, .int 0])), (e0, .inr (7, [.ref e1, .int 0]))] s.heap.size = A at hD ⊢
  have hA : ∀ q : Nat, s.heap.size ≤ q → A q := fun q h => by rw [← hAe]; exact Or.inr h
  have hS : va_S A s.heap s.heap [] := va_S.rf
  have hP : va_P D vwCl [(d0, .inr (5, [.ref e0, .int 0, .int 0, .int 0, .int 0, .long 0, .int 0, .int 0, .int 0, .int 0, .int 0])), (e0, .inr (7, [.ref e1, .int 0]))] s.heap := hP
  have hl := lv_entry ([.ref d0, .int 400]) (n := 2) (Nat.le_of_ble_eq_true rfl)
  rw [lg_entry_eq]
  generalize (lg_sl ([.ref d0, .int 400]) ++ List.replicate (2 - (lg_sl ([.ref d0, .int 400])).length) Slot.unset).toArray = ls at hl ⊢
  have hl : lv_has ls 2 [(0, .ref d0), (1, .int 400)] := hl
  refine lv_aload_n hx hb dX7_open_0 rfl (lv_at hl 0 rfl) ?_
  refine lv_iload_n hx hb dX7_open_1 rfl (lv_at hl 1 rfl) ?_
  refine va_put (D := D) (ci := 5) (v := .int 400) (ty := .int) (C := RX7) (T := TX7) (N := 11) hx hb hts inX7_open_X7 tyX7 tyX7_ok nmX7 hown hK hP hD hS 0 rfl rfl 1 (by decide) (hts (.fieldLink RX7 15 "RungMoney$Reader" "most" "I") (by decide +kernel)) (fun _ h9 => h9) rfl (by decide +kernel) rfl rfl (Nat.le_of_ble_eq_true rfl) dX7_open_2 (fun H locs hP hD hS => ?_)
  have hP : va_P D vwCl [(d0, .inr (5, [.ref e0, .int 400, .int 0, .int 0, .int 0, .long 0, .int 0, .int 0, .int 0, .int 0, .int 0])), (e0, .inr (7, [.ref e1, .int 0]))] H := hP
  have hD : va_D A [(d0, .inr (5, [.ref e0, .int 400, .int 0, .int 0, .int 0, .long 0, .int 0, .int 0, .int 0, .int 0, .int 0])), (e0, .inr (7, [.ref e1, .int 0]))] := hD
  refine lv_aload_n hx hb dX7_open_5 rfl (lv_at hl 0 rfl) ?_
  refine lv_iconst (v := 0) hx hb dX7_open_6 (by decide) ?_
  refine va_put (D := D) (ci := 5) (v := .int 0) (ty := .int) (C := RX7) (T := TX7) (N := 11) hx hb hts inX7_open_X7 tyX7 tyX7_ok nmX7 hown hK hP hD hS 0 rfl rfl 3 (by decide) (hts (.fieldLink RX7 19 "RungMoney$Reader" "next" "I") (by decide +kernel)) (fun _ h9 => h9) rfl (by decide +kernel) rfl rfl (Nat.le_of_ble_eq_true rfl) dX7_open_7 (fun H locs hP hD hS => ?_)
  have hP : va_P D vwCl [(d0, .inr (5, [.ref e0, .int 400, .int 0, .int 0, .int 0, .long 0, .int 0, .int 0, .int 0, .int 0, .int 0])), (e0, .inr (7, [.ref e1, .int 0]))] H := hP
  have hD : va_D A [(d0, .inr (5, [.ref e0, .int 400, .int 0, .int 0, .int 0, .long 0, .int 0, .int 0, .int 0, .int 0, .int 0])), (e0, .inr (7, [.ref e1, .int 0]))] := hD
  refine lv_aload_n hx hb dX7_open_10 rfl (lv_at hl 0 rfl) ?_
  refine lv_iconst (v := 0) hx hb dX7_open_11 (by decide) ?_
  refine va_put (D := D) (ci := 5) (v := .int 0) (ty := .int) (C := RX7) (T := TX7) (N := 11) hx hb hts inX7_open_X7 tyX7 tyX7_ok nmX7 hown hK hP hD hS 0 rfl rfl 9 (by decide) (hts (.fieldLink RX7 22 "RungMoney$Reader" "fault" "I") (by decide +kernel)) (fun _ h9 => h9) rfl (by decide +kernel) rfl rfl (Nat.le_of_ble_eq_true rfl) dX7_open_12 (fun H locs hP hD hS => ?_)
  have hP : va_P D vwCl [(d0, .inr (5, [.ref e0, .int 400, .int 0, .int 0, .int 0, .long 0, .int 0, .int 0, .int 0, .int 0, .int 0])), (e0, .inr (7, [.ref e1, .int 0]))] H := hP
  have hD : va_D A [(d0, .inr (5, [.ref e0, .int 400, .int 0, .int 0, .int 0, .long 0, .int 0, .int 0, .int 0, .int 0, .int 0])), (e0, .inr (7, [.ref e1, .int 0]))] := hD
  refine lv_aload_n hx hb dX7_open_15 rfl (lv_at hl 0 rfl) ?_
  refine lv_iconst (v := 0) hx hb dX7_open_16 (by decide) ?_
  refine va_put (D := D) (ci := 5) (v := .int 0) (ty := .int) (C := RX7) (T := TX7) (N := 11) hx hb hts inX7_open_X7 tyX7 tyX7_ok nmX7 hown hK hP hD hS 0 rfl rfl 10 (by decide) (hts (.fieldLink RX7 25 "RungMoney$Reader" "place" "I") (by decide +kernel)) (fun _ h9 => h9) rfl (by decide +kernel) rfl rfl (Nat.le_of_ble_eq_true rfl) dX7_open_17 (fun H locs hP hD hS => ?_)
  have hP : va_P D vwCl [(d0, .inr (5, [.ref e0, .int 400, .int 0, .int 0, .int 0, .long 0, .int 0, .int 0, .int 0, .int 0, .int 0])), (e0, .inr (7, [.ref e1, .int 0]))] H := hP
  have hD : va_D A [(d0, .inr (5, [.ref e0, .int 400, .int 0, .int 0, .int 0, .long 0, .int 0, .int 0, .int 0, .int 0, .int 0])), (e0, .inr (7, [.ref e1, .int 0]))] := hD
  refine lv_aload_n hx hb dX7_open_20 rfl (lv_at hl 0 rfl) ?_
  refine g_vV (As := []) (rest := []) (wr := []) ⟨hx, hb, hml, hown, hts⟩ (cR_step400 l D k d0 e0 e1) (cwV 0 hts gX7_open_X7_step rfl rfl rfl (by decide +kernel) ⟨Nat.le_of_ble_eq_true rfl, Nat.le_of_ble_eq_true rfl⟩) g_E0_ok (fun _ _ _ => trivial) hK hP hD hS hA 0 5 rfl rfl rfl [0, 1] [] rfl rfl (by decide) rfl hl.1 rfl (Nat.le_of_ble_eq_true rfl) dX7_open_21 ⟨Nat.le_of_ble_eq_true rfl, Nat.le_of_ble_eq_true rfl⟩ (fun u1 H locs hP hD hS => ?_)
  have hP : va_P D vwCl [(d0, .inr (5, [.ref e0, .int 400, .int 0, .int 0, .int 0, .long 0, .int 0, .int 0, .int 0, .int 0, .int 0])), (e0, .inr (7, [.ref e1, .int 0]))] H := hP
  have hD : va_D A [(d0, .inr (5, [.ref e0, .int 400, .int 0, .int 0, .int 0, .long 0, .int 0, .int 0, .int 0, .int 0, .int 0])), (e0, .inr (7, [.ref e1, .int 0]))] := hD
  have hP := hP.sub (ws' := [(d0, .inr (5, [.ref e0, .int 400, .int 0, .int 0, .int 0, .long 0, .int 0, .int 0, .int 0, .int 0, .int 0])), (e0, .inr (7, [.ref e1, .int 0]))]) [0, 1] rfl
  have hD := hD.sub (ws' := [(d0, .inr (5, [.ref e0, .int 400, .int 0, .int 0, .int 0, .long 0, .int 0, .int 0, .int 0, .int 0, .int 0])), (e0, .inr (7, [.ref e1, .int 0]))]) [0, 1] (by decide) rfl
  exact g_vret hx hb hr hlocks hK (fun _ => 0) hP hD hS dX7_open_24 ⟨Nat.le_of_ble_eq_true rfl, Nat.le_of_ble_eq_true rfl⟩
set_option maxHeartbeats 4000000 in
set_option maxRecDepth 100000 in
theorem cR_open200 (l : Launch) (D : va_G) (k : Nat → ClassId) (d0 : Nat) (e0 : Nat) (e1 : Nat) : g_Cv l yX7_open wsX7_open ({ frames := 1, cells := 0, slots := 0, locals := 20 }) D k g_E0 [.ref d0, .int 200] [(d0, .inr (5, [.ref e0, .int 0, .int 0, .int 0, .int 0, .long 0, .int 0, .int 0, .int 0, .int 0, .int 0])), (e0, .inr (7, [.ref e1, .int 0]))] (fun u => [(d0, .inr (5, [.ref e0, .int 200, .int 0, .int 0, .int 0, .long 0, .int 0, .int 0, .int 0, .int 0, .int 0])), (e0, .inr (7, [.ref e1, .int 0]))]) 0 0 := by
  intro sz
  refine Met.ofW (cc := cX7_open) (maxL := 2) (ret := none) (by decide) rfl ?_
  intro p e s m args below meth c s₁ B hml hv
  obtain ⟨rfl, hsz, hP, hK, hD0, hE⟩ := hv
  have hx := B.exec
  have hb := B.bytes
  have hr := B.returns
  have hts := atoms_spec (ws := wsX7_open) B.pre
  have hown : s.vm.findClass RX7 = some m.cls := findClass_of_methodNamed B.named
  have hlocks := B.notSynchronized
  subst hsz
  have hD := hD0.self (sz := s.heap.size)
  generalize hAe : va_A [(d0, .inr (5, [.ref e0, .int 0, .int 0, .int 0, .int 0, .long 0, .int 0, .int 0, .int 0, .int 0, .int 0])), (e0, .inr (7, [.ref e1, .int 0]))] s.heap.size = A at hD ⊢
  have hA : ∀ q : Nat, s.heap.size ≤ q → A q := fun q h => by rw [← hAe]; exact Or.inr h
  have hS : va_S A s.heap s.heap [] := va_S.rf
  have hP : va_P D vwCl [(d0, .inr (5, [.ref e0, .int 0, .int 0, .int 0, .int 0, .long 0, .int 0, .int 0, .int 0, .int 0, .int 0])), (e0, .inr (7, [.ref e1, .int 0]))] s.heap := hP
  have hl := lv_entry ([.ref d0, .int 200]) (n := 2) (Nat.le_of_ble_eq_true rfl)
  rw [lg_entry_eq]
  generalize (lg_sl ([.ref d0, .int 200]) ++ List.replicate (2 - (lg_sl ([.ref d0, .int 200])).length) Slot.unset).toArray = ls at hl ⊢
  have hl : lv_has ls 2 [(0, .ref d0), (1, .int 200)] := hl
  refine lv_aload_n hx hb dX7_open_0 rfl (lv_at hl 0 rfl) ?_
  refine lv_iload_n hx hb dX7_open_1 rfl (lv_at hl 1 rfl) ?_
  refine va_put (D := D) (ci := 5) (v := .int 200) (ty := .int) (C := RX7) (T := TX7) (N := 11) hx hb hts inX7_open_X7 tyX7 tyX7_ok nmX7 hown hK hP hD hS 0 rfl rfl 1 (by decide) (hts (.fieldLink RX7 15 "RungMoney$Reader" "most" "I") (by decide +kernel)) (fun _ h9 => h9) rfl (by decide +kernel) rfl rfl (Nat.le_of_ble_eq_true rfl) dX7_open_2 (fun H locs hP hD hS => ?_)
  have hP : va_P D vwCl [(d0, .inr (5, [.ref e0, .int 200, .int 0, .int 0, .int 0, .long 0, .int 0, .int 0, .int 0, .int 0, .int 0])), (e0, .inr (7, [.ref e1, .int 0]))] H := hP
  have hD : va_D A [(d0, .inr (5, [.ref e0, .int 200, .int 0, .int 0, .int 0, .long 0, .int 0, .int 0, .int 0, .int 0, .int 0])), (e0, .inr (7, [.ref e1, .int 0]))] := hD
  refine lv_aload_n hx hb dX7_open_5 rfl (lv_at hl 0 rfl) ?_
  refine lv_iconst (v := 0) hx hb dX7_open_6 (by decide) ?_
  refine va_put (D := D) (ci := 5) (v := .int 0) (ty := .int) (C := RX7) (T := TX7) (N := 11) hx hb hts inX7_open_X7 tyX7 tyX7_ok nmX7 hown hK hP hD hS 0 rfl rfl 3 (by decide) (hts (.fieldLink RX7 19 "RungMoney$Reader" "next" "I") (by decide +kernel)) (fun _ h9 => h9) rfl (by decide +kernel) rfl rfl (Nat.le_of_ble_eq_true rfl) dX7_open_7 (fun H locs hP hD hS => ?_)
  have hP : va_P D vwCl [(d0, .inr (5, [.ref e0, .int 200, .int 0, .int 0, .int 0, .long 0, .int 0, .int 0, .int 0, .int 0, .int 0])), (e0, .inr (7, [.ref e1, .int 0]))] H := hP
  have hD : va_D A [(d0, .inr (5, [.ref e0, .int 200, .int 0, .int 0, .int 0, .long 0, .int 0, .int 0, .int 0, .int 0, .int 0])), (e0, .inr (7, [.ref e1, .int 0]))] := hD
  refine lv_aload_n hx hb dX7_open_10 rfl (lv_at hl 0 rfl) ?_
  refine lv_iconst (v := 0) hx hb dX7_open_11 (by decide) ?_
  refine va_put (D := D) (ci := 5) (v := .int 0) (ty := .int) (C := RX7) (T := TX7) (N := 11) hx hb hts inX7_open_X7 tyX7 tyX7_ok nmX7 hown hK hP hD hS 0 rfl rfl 9 (by decide) (hts (.fieldLink RX7 22 "RungMoney$Reader" "fault" "I") (by decide +kernel)) (fun _ h9 => h9) rfl (by decide +kernel) rfl rfl (Nat.le_of_ble_eq_true rfl) dX7_open_12 (fun H locs hP hD hS => ?_)
  have hP : va_P D vwCl [(d0, .inr (5, [.ref e0, .int 200, .int 0, .int 0, .int 0, .long 0, .int 0, .int 0, .int 0, .int 0, .int 0])), (e0, .inr (7, [.ref e1, .int 0]))] H := hP
  have hD : va_D A [(d0, .inr (5, [.ref e0, .int 200, .int 0, .int 0, .int 0, .long 0, .int 0, .int 0, .int 0, .int 0, .int 0])), (e0, .inr (7, [.ref e1, .int 0]))] := hD
  refine lv_aload_n hx hb dX7_open_15 rfl (lv_at hl 0 rfl) ?_
  refine lv_iconst (v := 0) hx hb dX7_open_16 (by decide) ?_
  refine va_put (D := D) (ci := 5) (v := .int 0) (ty := .int) (C := RX7) (T := TX7) (N := 11) hx hb hts inX7_open_X7 tyX7 tyX7_ok nmX7 hown hK hP hD hS 0 rfl rfl 10 (by decide) (hts (.fieldLink RX7 25 "RungMoney$Reader" "place" "I") (by decide +kernel)) (fun _ h9 => h9) rfl (by decide +kernel) rfl rfl (Nat.le_of_ble_eq_true rfl) dX7_open_17 (fun H locs hP hD hS => ?_)
  have hP : va_P D vwCl [(d0, .inr (5, [.ref e0, .int 200, .int 0, .int 0, .int 0, .long 0, .int 0, .int 0, .int 0, .int 0, .int 0])), (e0, .inr (7, [.ref e1, .int 0]))] H := hP
  have hD : va_D A [(d0, .inr (5, [.ref e0, .int 200, .int 0, .int 0, .int 0, .long 0, .int 0, .int 0, .int 0, .int 0, .int 0])), (e0, .inr (7, [.ref e1, .int 0]))] := hD
  refine lv_aload_n hx hb dX7_open_20 rfl (lv_at hl 0 rfl) ?_
  refine g_vV (As := []) (rest := []) (wr := []) ⟨hx, hb, hml, hown, hts⟩ (cR_step200 l D k d0 e0 e1) (cwV 0 hts gX7_open_X7_step rfl rfl rfl (by decide +kernel) ⟨Nat.le_of_ble_eq_true rfl, Nat.le_of_ble_eq_true rfl⟩) g_E0_ok (fun _ _ _ => trivial) hK hP hD hS hA 0 5 rfl rfl rfl [0, 1] [] rfl rfl (by decide) rfl hl.1 rfl (Nat.le_of_ble_eq_true rfl) dX7_open_21 ⟨Nat.le_of_ble_eq_true rfl, Nat.le_of_ble_eq_true rfl⟩ (fun u1 H locs hP hD hS => ?_)
  have hP : va_P D vwCl [(d0, .inr (5, [.ref e0, .int 200, .int 0, .int 0, .int 0, .long 0, .int 0, .int 0, .int 0, .int 0, .int 0])), (e0, .inr (7, [.ref e1, .int 0]))] H := hP
  have hD : va_D A [(d0, .inr (5, [.ref e0, .int 200, .int 0, .int 0, .int 0, .long 0, .int 0, .int 0, .int 0, .int 0, .int 0])), (e0, .inr (7, [.ref e1, .int 0]))] := hD
  have hP := hP.sub (ws' := [(d0, .inr (5, [.ref e0, .int 200, .int 0, .int 0, .int 0, .long 0, .int 0, .int 0, .int 0, .int 0, .int 0])), (e0, .inr (7, [.ref e1, .int 0]))]) [0, 1] rfl
  have hD := hD.sub (ws' := [(d0, .inr (5, [.ref e0, .int 200, .int 0, .int 0, .int 0, .long 0, .int 0, .int 0, .int 0, .int 0, .int 0])), (e0, .inr (7, [.ref e1, .int 0]))]) [0, 1] (by decide) rfl
  exact g_vret hx hb hr hlocks hK (fun _ => 0) hP hD hS dX7_open_24 ⟨Nat.le_of_ble_eq_true rfl, Nat.le_of_ble_eq_true rfl⟩
set_option maxHeartbeats 4000000 in
set_option maxRecDepth 100000 in
theorem cV_read (l : Launch) (D : va_G) (k : Nat → ClassId) (v0 : Nat) (d0 : Nat) (e0 : Nat) (e1 : Nat) (n0 : Nat) (n1 : Nat) (n2 : Nat) (n3 : Nat) (n4 : Nat) (n5 : Nat) (n6 : Nat) (n7 : Nat) (n8 : Nat) (n9 : Nat) (n10 : Nat) (n11 : Nat) : g_Ci l yX11_read wsX11_read ({ frames := 3, cells := 0, slots := 0, locals := 63 }) D k g_E0 [.ref v0, .ref n0] [(v0, .inr (9, [.ref d0, .int 0, .int 0, .int 0])), (d0, .inr (5, [.ref e0, .int 0, .int 0, .int 0, .int 0, .long 0, .int 0, .int 0, .int 0, .int 0, .int 0])), (e0, .inr (7, [.ref e1, .int 0])), (n0, .inr (8, [.int 0, .ref n1, .ref n2, .ref n8, .ref n11, .int 1, .int 0, .int 0, .int 0])), (n1, .inl (k 1, 6, .inr (.inl (fun _ => 0)))), (n2, .inr (1, [.int 0, .ref n3, .ref n4, .ref n5, .ref n6, .ref n7])), (n3, .inl (k 0, 16, .inl (fun _ => 0))), (n4, .inl (k 0, 16, .inl (fun _ => 0))), (n5, .inl (k 0, 16, .inl (fun _ => 0))), (n6, .inl (k 0, 16, .inl (fun _ => 0))), (n7, .inl (k 0, 16, .inl (fun _ => 0))), (n8, .inr (0, [.ref n9, .ref n10])), (n9, .inl (k 0, 36, .inl (fun _ => 0))), (n10, .inl (k 0, 6, .inl (fun _ => 0))), (n11, .inl (k 0, 6, .inl (fun _ => 0)))] 1 (fun u => [(v0, .inr (9, [.ref d0, .int 0, .int 0, .int 0])), (d0, .inr (5, [.ref e0, .int 900, .int 0, .int 0, .int 0, .long 0, .int 0, .int 0, .int 0, .int 0, .int 0])), (e0, .inr (7, [.ref e1, .int 0])), (n0, .inr (8, [.int 0, .ref n1, .ref n2, .ref n8, .ref n11, .int 1, .int 0, .int 0, .int 0])), (n1, .inl (k 1, 6, .inr (.inl (fun _ => 0)))), (n2, .inr (1, [.int 0, .ref n3, .ref n4, .ref n5, .ref n6, .ref n7])), (n3, .inl (k 0, 16, .inl (fun _ => 0))), (n4, .inl (k 0, 16, .inl (fun _ => 0))), (n5, .inl (k 0, 16, .inl (fun _ => 0))), (n6, .inl (k 0, 16, .inl (fun _ => 0))), (n7, .inl (k 0, 16, .inl (fun _ => 0))), (n8, .inr (0, [.ref n9, .ref n10])), (n9, .inl (k 0, 36, .inl (fun _ => 0))), (n10, .inl (k 0, 6, .inl (fun _ => 0))), (n11, .inl (k 0, 6, .inl (fun _ => 0)))]) 0 0 := by
  intro sz
  refine Met.ofW (cc := cX11_read) (maxL := 2) (ret := (some .boolean)) (by decide) rfl ?_
  intro p e s m args below meth c s₁ B hml hv
  obtain ⟨rfl, hsz, hP, hK, hD0, hE⟩ := hv
  have hx := B.exec
  have hb := B.bytes
  have hr := B.returns
  have hts := atoms_spec (ws := wsX11_read) B.pre
  have hown : s.vm.findClass RX11 = some m.cls := findClass_of_methodNamed B.named
  have hlocks := B.notSynchronized
  subst hsz
  have hD := hD0.self (sz := s.heap.size)
  generalize hAe : va_A [(v0, .inr (9, [.ref d0, .int 0, .int 0, .int 0])), (d0, .inr (5, [.ref e0, .int 0, .int 0, .int 0, .int 0, .long 0, .int 0, .int 0, .int 0, .int 0, .int 0])), (e0, .inr (7, [.ref e1, .int 0])), (n0, .inr (8, [.int 0, .ref n1, .ref n2, .ref n8, .ref n11, .int 1, .int 0, .int 0, .int 0])), (n1, .inl (k 1, 6, .inr (.inl (fun _ => 0)))), (n2, .inr (1, [.int 0, .ref n3, .ref n4, .ref n5, .ref n6, .ref n7])), (n3, .inl (k 0, 16, .inl (fun _ => 0))), (n4, .inl (k 0, 16, .inl (fun _ => 0))), (n5, .inl (k 0, 16, .inl (fun _ => 0))), (n6, .inl (k 0, 16, .inl (fun _ => 0))), (n7, .inl (k 0, 16, .inl (fun _ => 0))), (n8, .inr (0, [.ref n9, .ref n10])), (n9, .inl (k 0, 36, .inl (fun _ => 0))), (n10, .inl (k 0, 6, .inl (fun _ => 0))), (n11, .inl (k 0, 6, .inl (fun _ => 0)))] s.heap.size = A at hD ⊢
  have hA : ∀ q : Nat, s.heap.size ≤ q → A q := fun q h => by rw [← hAe]; exact Or.inr h
  have hS : va_S A s.heap s.heap [] := va_S.rf
  have hP : va_P D vwCl [(v0, .inr (9, [.ref d0, .int 0, .int 0, .int 0])), (d0, .inr (5, [.ref e0, .int 0, .int 0, .int 0, .int 0, .long 0, .int 0, .int 0, .int 0, .int 0, .int 0])), (e0, .inr (7, [.ref e1, .int 0])), (n0, .inr (8, [.int 0, .ref n1, .ref n2, .ref n8, .ref n11, .int 1, .int 0, .int 0, .int 0])), (n1, .inl (k 1, 6, .inr (.inl (fun _ => 0)))), (n2, .inr (1, [.int 0, .ref n3, .ref n4, .ref n5, .ref n6, .ref n7])), (n3, .inl (k 0, 16, .inl (fun _ => 0))), (n4, .inl (k 0, 16, .inl (fun _ => 0))), (n5, .inl (k 0, 16, .inl (fun _ => 0))), (n6, .inl (k 0, 16, .inl (fun _ => 0))), (n7, .inl (k 0, 16, .inl (fun _ => 0))), (n8, .inr (0, [.ref n9, .ref n10])), (n9, .inl (k 0, 36, .inl (fun _ => 0))), (n10, .inl (k 0, 6, .inl (fun _ => 0))), (n11, .inl (k 0, 6, .inl (fun _ => 0)))] s.heap := hP
  have hl := lv_entry ([.ref v0, .ref n0]) (n := 2) (Nat.le_of_ble_eq_true rfl)
  rw [lg_entry_eq]
  generalize (lg_sl ([.ref v0, .ref n0]) ++ List.replicate (2 - (lg_sl ([.ref v0, .ref n0])).length) Slot.unset).toArray = ls at hl ⊢
  have hl : lv_has ls 2 [(0, .ref v0), (1, .ref n0)] := hl
  refine lv_aload_n hx hb dX11_read_0 rfl (lv_at hl 1 rfl) ?_
  refine g_vV (As := []) (rest := []) (wr := [(v0, .inr (9, [.ref d0, .int 0, .int 0, .int 0])), (d0, .inr (5, [.ref e0, .int 0, .int 0, .int 0, .int 0, .long 0, .int 0, .int 0, .int 0, .int 0, .int 0])), (e0, .inr (7, [.ref e1, .int 0]))]) ⟨hx, hb, hml, hown, hts⟩ (cT_clear l D k n0 n1 n2 n3 n4 n5 n6 n7 n8 n9 n10 n11) (cwV 0 hts gX11_read_X10_clear rfl rfl rfl (by decide +kernel) ⟨Nat.le_of_ble_eq_true rfl, Nat.le_of_ble_eq_true rfl⟩) g_E0_ok (fun _ _ _ => trivial) hK hP hD hS hA 3 8 rfl rfl rfl [3, 4, 5, 6, 7, 8, 9, 10, 11, 12, 13, 14] [0, 1, 2] rfl rfl (by decide) rfl hl.1 rfl (Nat.le_of_ble_eq_true rfl) dX11_read_1 ⟨Nat.le_of_ble_eq_true rfl, Nat.le_of_ble_eq_true rfl⟩ (fun u1 H locs hP hD hS => ?_)
  have hP : va_P D vwCl [(v0, .inr (9, [.ref d0, .int 0, .int 0, .int 0])), (d0, .inr (5, [.ref e0, .int 0, .int 0, .int 0, .int 0, .long 0, .int 0, .int 0, .int 0, .int 0, .int 0])), (e0, .inr (7, [.ref e1, .int 0])), (n0, .inr (8, [.int 0, .ref n1, .ref n2, .ref n8, .ref n11, .int 1, .int 0, .int 0, .int 0])), (n1, .inl (k 1, 6, .inr (.inl (fun _ => 0)))), (n2, .inr (1, [.int 0, .ref n3, .ref n4, .ref n5, .ref n6, .ref n7])), (n3, .inl (k 0, 16, .inl (fun _ => 0))), (n4, .inl (k 0, 16, .inl (fun _ => 0))), (n5, .inl (k 0, 16, .inl (fun _ => 0))), (n6, .inl (k 0, 16, .inl (fun _ => 0))), (n7, .inl (k 0, 16, .inl (fun _ => 0))), (n8, .inr (0, [.ref n9, .ref n10])), (n9, .inl (k 0, 36, .inl (fun _ => 0))), (n10, .inl (k 0, 6, .inl (fun _ => 0))), (n11, .inl (k 0, 6, .inl (fun _ => 0)))] H := hP
  have hD : va_D A [(v0, .inr (9, [.ref d0, .int 0, .int 0, .int 0])), (d0, .inr (5, [.ref e0, .int 0, .int 0, .int 0, .int 0, .long 0, .int 0, .int 0, .int 0, .int 0, .int 0])), (e0, .inr (7, [.ref e1, .int 0])), (n0, .inr (8, [.int 0, .ref n1, .ref n2, .ref n8, .ref n11, .int 1, .int 0, .int 0, .int 0])), (n1, .inl (k 1, 6, .inr (.inl (fun _ => 0)))), (n2, .inr (1, [.int 0, .ref n3, .ref n4, .ref n5, .ref n6, .ref n7])), (n3, .inl (k 0, 16, .inl (fun _ => 0))), (n4, .inl (k 0, 16, .inl (fun _ => 0))), (n5, .inl (k 0, 16, .inl (fun _ => 0))), (n6, .inl (k 0, 16, .inl (fun _ => 0))), (n7, .inl (k 0, 16, .inl (fun _ => 0))), (n8, .inr (0, [.ref n9, .ref n10])), (n9, .inl (k 0, 36, .inl (fun _ => 0))), (n10, .inl (k 0, 6, .inl (fun _ => 0))), (n11, .inl (k 0, 6, .inl (fun _ => 0)))] := hD
  refine lv_aload_n hx hb dX11_read_4 rfl (lv_at hl 0 rfl) ?_
  refine lv_iconst (v := 0) hx hb dX11_read_5 (by decide) ?_
  refine va_put (D := D) (ci := 9) (v := .int 0) (ty := .int) (C := RX11) (T := TX11) (N := 4) hx hb hts inX11_read_X11 tyX11 tyX11_ok nmX11 hown hK hP hD hS 0 rfl rfl 1 (by decide) (hts (.fieldLink RX11 20 "RungMoney$TownReader" "debts" "I") (by decide +kernel)) (fun _ h9 => h9) rfl (by decide +kernel) rfl rfl (Nat.le_of_ble_eq_true rfl) dX11_read_6 (fun H locs hP hD hS => ?_)
  have hP : va_P D vwCl [(v0, .inr (9, [.ref d0, .int 0, .int 0, .int 0])), (d0, .inr (5, [.ref e0, .int 0, .int 0, .int 0, .int 0, .long 0, .int 0, .int 0, .int 0, .int 0, .int 0])), (e0, .inr (7, [.ref e1, .int 0])), (n0, .inr (8, [.int 0, .ref n1, .ref n2, .ref n8, .ref n11, .int 1, .int 0, .int 0, .int 0])), (n1, .inl (k 1, 6, .inr (.inl (fun _ => 0)))), (n2, .inr (1, [.int 0, .ref n3, .ref n4, .ref n5, .ref n6, .ref n7])), (n3, .inl (k 0, 16, .inl (fun _ => 0))), (n4, .inl (k 0, 16, .inl (fun _ => 0))), (n5, .inl (k 0, 16, .inl (fun _ => 0))), (n6, .inl (k 0, 16, .inl (fun _ => 0))), (n7, .inl (k 0, 16, .inl (fun _ => 0))), (n8, .inr (0, [.ref n9, .ref n10])), (n9, .inl (k 0, 36, .inl (fun _ => 0))), (n10, .inl (k 0, 6, .inl (fun _ => 0))), (n11, .inl (k 0, 6, .inl (fun _ => 0)))] H := hP
  have hD : va_D A [(v0, .inr (9, [.ref d0, .int 0, .int 0, .int 0])), (d0, .inr (5, [.ref e0, .int 0, .int 0, .int 0, .int 0, .long 0, .int 0, .int 0, .int 0, .int 0, .int 0])), (e0, .inr (7, [.ref e1, .int 0])), (n0, .inr (8, [.int 0, .ref n1, .ref n2, .ref n8, .ref n11, .int 1, .int 0, .int 0, .int 0])), (n1, .inl (k 1, 6, .inr (.inl (fun _ => 0)))), (n2, .inr (1, [.int 0, .ref n3, .ref n4, .ref n5, .ref n6, .ref n7])), (n3, .inl (k 0, 16, .inl (fun _ => 0))), (n4, .inl (k 0, 16, .inl (fun _ => 0))), (n5, .inl (k 0, 16, .inl (fun _ => 0))), (n6, .inl (k 0, 16, .inl (fun _ => 0))), (n7, .inl (k 0, 16, .inl (fun _ => 0))), (n8, .inr (0, [.ref n9, .ref n10])), (n9, .inl (k 0, 36, .inl (fun _ => 0))), (n10, .inl (k 0, 6, .inl (fun _ => 0))), (n11, .inl (k 0, 6, .inl (fun _ => 0)))] := hD
  refine lv_aload_n hx hb dX11_read_9 rfl (lv_at hl 0 rfl) ?_
  refine lv_iconst (v := 0) hx hb dX11_read_10 (by decide) ?_
  refine va_put (D := D) (ci := 9) (v := .int 0) (ty := .boolean) (C := RX11) (T := TX11) (N := 4) hx hb hts inX11_read_X11 tyX11 tyX11_ok nmX11 hown hK hP hD hS 0 rfl rfl 2 (by decide) (hts (.fieldLink RX11 24 "RungMoney$TownReader" "rotTold" "Z") (by decide +kernel)) (fun _ h9 => h9) rfl (by decide +kernel) rfl rfl (Nat.le_of_ble_eq_true rfl) dX11_read_11 (fun H locs hP hD hS => ?_)
  have hP : va_P D vwCl [(v0, .inr (9, [.ref d0, .int 0, .int 0, .int 0])), (d0, .inr (5, [.ref e0, .int 0, .int 0, .int 0, .int 0, .long 0, .int 0, .int 0, .int 0, .int 0, .int 0])), (e0, .inr (7, [.ref e1, .int 0])), (n0, .inr (8, [.int 0, .ref n1, .ref n2, .ref n8, .ref n11, .int 1, .int 0, .int 0, .int 0])), (n1, .inl (k 1, 6, .inr (.inl (fun _ => 0)))), (n2, .inr (1, [.int 0, .ref n3, .ref n4, .ref n5, .ref n6, .ref n7])), (n3, .inl (k 0, 16, .inl (fun _ => 0))), (n4, .inl (k 0, 16, .inl (fun _ => 0))), (n5, .inl (k 0, 16, .inl (fun _ => 0))), (n6, .inl (k 0, 16, .inl (fun _ => 0))), (n7, .inl (k 0, 16, .inl (fun _ => 0))), (n8, .inr (0, [.ref n9, .ref n10])), (n9, .inl (k 0, 36, .inl (fun _ => 0))), (n10, .inl (k 0, 6, .inl (fun _ => 0))), (n11, .inl (k 0, 6, .inl (fun _ => 0)))] H := hP
  have hD : va_D A [(v0, .inr (9, [.ref d0, .int 0, .int 0, .int 0])), (d0, .inr (5, [.ref e0, .int 0, .int 0, .int 0, .int 0, .long 0, .int 0, .int 0, .int 0, .int 0, .int 0])), (e0, .inr (7, [.ref e1, .int 0])), (n0, .inr (8, [.int 0, .ref n1, .ref n2, .ref n8, .ref n11, .int 1, .int 0, .int 0, .int 0])), (n1, .inl (k 1, 6, .inr (.inl (fun _ => 0)))), (n2, .inr (1, [.int 0, .ref n3, .ref n4, .ref n5, .ref n6, .ref n7])), (n3, .inl (k 0, 16, .inl (fun _ => 0))), (n4, .inl (k 0, 16, .inl (fun _ => 0))), (n5, .inl (k 0, 16, .inl (fun _ => 0))), (n6, .inl (k 0, 16, .inl (fun _ => 0))), (n7, .inl (k 0, 16, .inl (fun _ => 0))), (n8, .inr (0, [.ref n9, .ref n10])), (n9, .inl (k 0, 36, .inl (fun _ => 0))), (n10, .inl (k 0, 6, .inl (fun _ => 0))), (n11, .inl (k 0, 6, .inl (fun _ => 0)))] := hD
  refine lv_aload_n hx hb dX11_read_14 rfl (lv_at hl 0 rfl) ?_
  refine va_get (D := D) (ci := 9) (v := .ref d0) (C := RX11) (T := TX11) (N := 4) hx hb hts inX11_read_X11 hown hK hP 0 rfl rfl 0 (by decide) (hts (.fieldLink RX11 9 "RungMoney$TownReader" "reader" "LRungMoney$Reader;") (by decide +kernel)) (fun _ h9 => h9) rfl dX11_read_15 ?_
  refine lv_sipush (v := 900) hx hb dX11_read_18 (by decide) ?_
  refine g_vV (As := [.int 900]) (rest := []) (wr := [(v0, .inr (9, [.ref d0, .int 0, .int 0, .int 0])), (n0, .inr (8, [.int 0, .ref n1, .ref n2, .ref n8, .ref n11, .int 1, .int 0, .int 0, .int 0])), (n1, .inl (k 1, 6, .inr (.inl (fun _ => 0)))), (n2, .inr (1, [.int 0, .ref n3, .ref n4, .ref n5, .ref n6, .ref n7])), (n3, .inl (k 0, 16, .inl (fun _ => 0))), (n4, .inl (k 0, 16, .inl (fun _ => 0))), (n5, .inl (k 0, 16, .inl (fun _ => 0))), (n6, .inl (k 0, 16, .inl (fun _ => 0))), (n7, .inl (k 0, 16, .inl (fun _ => 0))), (n8, .inr (0, [.ref n9, .ref n10])), (n9, .inl (k 0, 36, .inl (fun _ => 0))), (n10, .inl (k 0, 6, .inl (fun _ => 0))), (n11, .inl (k 0, 6, .inl (fun _ => 0)))]) ⟨hx, hb, hml, hown, hts⟩ (cR_open900 l D k d0 e0 e1) (cwV 1 hts gX11_read_X7_open rfl rfl rfl (by decide +kernel) ⟨Nat.le_of_ble_eq_true rfl, Nat.le_of_ble_eq_true rfl⟩) g_E0_ok (fun _ _ _ => trivial) hK hP hD hS hA 1 5 rfl rfl rfl [1, 2] [0, 3, 4, 5, 6, 7, 8, 9, 10, 11, 12, 13, 14] rfl rfl (by decide) rfl hl.1 rfl (Nat.le_of_ble_eq_true rfl) dX11_read_21 ⟨Nat.le_of_ble_eq_true rfl, Nat.le_of_ble_eq_true rfl⟩ (fun u2 H locs hP hD hS => ?_)
  have hP : va_P D vwCl [(v0, .inr (9, [.ref d0, .int 0, .int 0, .int 0])), (n0, .inr (8, [.int 0, .ref n1, .ref n2, .ref n8, .ref n11, .int 1, .int 0, .int 0, .int 0])), (n1, .inl (k 1, 6, .inr (.inl (fun _ => 0)))), (n2, .inr (1, [.int 0, .ref n3, .ref n4, .ref n5, .ref n6, .ref n7])), (n3, .inl (k 0, 16, .inl (fun _ => 0))), (n4, .inl (k 0, 16, .inl (fun _ => 0))), (n5, .inl (k 0, 16, .inl (fun _ => 0))), (n6, .inl (k 0, 16, .inl (fun _ => 0))), (n7, .inl (k 0, 16, .inl (fun _ => 0))), (n8, .inr (0, [.ref n9, .ref n10])), (n9, .inl (k 0, 36, .inl (fun _ => 0))), (n10, .inl (k 0, 6, .inl (fun _ => 0))), (n11, .inl (k 0, 6, .inl (fun _ => 0))), (d0, .inr (5, [.ref e0, .int 900, .int 0, .int 0, .int 0, .long 0, .int 0, .int 0, .int 0, .int 0, .int 0])), (e0, .inr (7, [.ref e1, .int 0]))] H := hP
  have hD : va_D A [(v0, .inr (9, [.ref d0, .int 0, .int 0, .int 0])), (n0, .inr (8, [.int 0, .ref n1, .ref n2, .ref n8, .ref n11, .int 1, .int 0, .int 0, .int 0])), (n1, .inl (k 1, 6, .inr (.inl (fun _ => 0)))), (n2, .inr (1, [.int 0, .ref n3, .ref n4, .ref n5, .ref n6, .ref n7])), (n3, .inl (k 0, 16, .inl (fun _ => 0))), (n4, .inl (k 0, 16, .inl (fun _ => 0))), (n5, .inl (k 0, 16, .inl (fun _ => 0))), (n6, .inl (k 0, 16, .inl (fun _ => 0))), (n7, .inl (k 0, 16, .inl (fun _ => 0))), (n8, .inr (0, [.ref n9, .ref n10])), (n9, .inl (k 0, 36, .inl (fun _ => 0))), (n10, .inl (k 0, 6, .inl (fun _ => 0))), (n11, .inl (k 0, 6, .inl (fun _ => 0))), (d0, .inr (5, [.ref e0, .int 900, .int 0, .int 0, .int 0, .long 0, .int 0, .int 0, .int 0, .int 0, .int 0])), (e0, .inr (7, [.ref e1, .int 0]))] := hD
  refine lv_aload_n hx hb dX11_read_24 rfl (lv_at hl 0 rfl) ?_
  refine lv_iconst (v := 0) hx hb dX11_read_25 (by decide) ?_
  refine va_put (D := D) (ci := 9) (v := .int 0) (ty := .int) (C := RX11) (T := TX11) (N := 4) hx hb hts inX11_read_X11 tyX11 tyX11_ok nmX11 hown hK hP hD hS 0 rfl rfl 3 (by decide) (hts (.fieldLink RX11 34 "RungMoney$TownReader" "lines" "I") (by decide +kernel)) (fun _ h9 => h9) rfl (by decide +kernel) rfl rfl (Nat.le_of_ble_eq_true rfl) dX11_read_26 (fun H locs hP hD hS => ?_)
  have hP : va_P D vwCl [(v0, .inr (9, [.ref d0, .int 0, .int 0, .int 0])), (n0, .inr (8, [.int 0, .ref n1, .ref n2, .ref n8, .ref n11, .int 1, .int 0, .int 0, .int 0])), (n1, .inl (k 1, 6, .inr (.inl (fun _ => 0)))), (n2, .inr (1, [.int 0, .ref n3, .ref n4, .ref n5, .ref n6, .ref n7])), (n3, .inl (k 0, 16, .inl (fun _ => 0))), (n4, .inl (k 0, 16, .inl (fun _ => 0))), (n5, .inl (k 0, 16, .inl (fun _ => 0))), (n6, .inl (k 0, 16, .inl (fun _ => 0))), (n7, .inl (k 0, 16, .inl (fun _ => 0))), (n8, .inr (0, [.ref n9, .ref n10])), (n9, .inl (k 0, 36, .inl (fun _ => 0))), (n10, .inl (k 0, 6, .inl (fun _ => 0))), (n11, .inl (k 0, 6, .inl (fun _ => 0))), (d0, .inr (5, [.ref e0, .int 900, .int 0, .int 0, .int 0, .long 0, .int 0, .int 0, .int 0, .int 0, .int 0])), (e0, .inr (7, [.ref e1, .int 0]))] H := hP
  have hD : va_D A [(v0, .inr (9, [.ref d0, .int 0, .int 0, .int 0])), (n0, .inr (8, [.int 0, .ref n1, .ref n2, .ref n8, .ref n11, .int 1, .int 0, .int 0, .int 0])), (n1, .inl (k 1, 6, .inr (.inl (fun _ => 0)))), (n2, .inr (1, [.int 0, .ref n3, .ref n4, .ref n5, .ref n6, .ref n7])), (n3, .inl (k 0, 16, .inl (fun _ => 0))), (n4, .inl (k 0, 16, .inl (fun _ => 0))), (n5, .inl (k 0, 16, .inl (fun _ => 0))), (n6, .inl (k 0, 16, .inl (fun _ => 0))), (n7, .inl (k 0, 16, .inl (fun _ => 0))), (n8, .inr (0, [.ref n9, .ref n10])), (n9, .inl (k 0, 36, .inl (fun _ => 0))), (n10, .inl (k 0, 6, .inl (fun _ => 0))), (n11, .inl (k 0, 6, .inl (fun _ => 0))), (d0, .inr (5, [.ref e0, .int 900, .int 0, .int 0, .int 0, .long 0, .int 0, .int 0, .int 0, .int 0, .int 0])), (e0, .inr (7, [.ref e1, .int 0]))] := hD
  refine lv_aload_n hx hb dX11_read_29 rfl (lv_at hl 0 rfl) ?_
  refine va_get (D := D) (ci := 9) (v := .int 0) (C := RX11) (T := TX11) (N := 4) hx hb hts inX11_read_X11 hown hK hP 0 rfl rfl 3 (by decide) (hts (.fieldLink RX11 34 "RungMoney$TownReader" "lines" "I") (by decide +kernel)) (fun _ h9 => h9) rfl dX11_read_30 ?_
  refine lv_sipush (v := 900) hx hb dX11_read_33 (by decide) ?_
  refine lv_icmp_ge (tgt := 84) hx hb dX11_read_36 (by decide) (fun h9 => absurd h9 (by decide)) (fun _ => ?_)
  refine lv_aload_n hx hb dX11_read_39 rfl (lv_at hl 0 rfl) ?_
  refine va_get (D := D) (ci := 9) (v := .ref d0) (C := RX11) (T := TX11) (N := 4) hx hb hts inX11_read_X11 hown hK hP 0 rfl rfl 0 (by decide) (hts (.fieldLink RX11 9 "RungMoney$TownReader" "reader" "LRungMoney$Reader;") (by decide +kernel)) (fun _ h9 => h9) rfl dX11_read_40 ?_
  refine va_get (D := D) (ci := 5) (v := .int 0) (C := RX7) (T := TX7) (N := 11) hx hb hts inX11_read_X7 hown hK hP 13 rfl rfl 4 (by decide) (hts (.fieldLink RX11 37 "RungMoney$Reader" "kind" "I") (by decide +kernel)) (fun _ h9 => h9) rfl dX11_read_43 ?_
  refine lv_if_eq (tgt := 84) hx hb dX11_read_46 (by decide) (fun _ => ?_) (fun h9 => absurd (by decide) h9)
  refine lv_iconst (v := 1) hx hb dX11_read_84 (by decide) ?_
  have hP := hP.sub (ws' := [(v0, .inr (9, [.ref d0, .int 0, .int 0, .int 0])), (d0, .inr (5, [.ref e0, .int 900, .int 0, .int 0, .int 0, .long 0, .int 0, .int 0, .int 0, .int 0, .int 0])), (e0, .inr (7, [.ref e1, .int 0])), (n0, .inr (8, [.int 0, .ref n1, .ref n2, .ref n8, .ref n11, .int 1, .int 0, .int 0, .int 0])), (n1, .inl (k 1, 6, .inr (.inl (fun _ => 0)))), (n2, .inr (1, [.int 0, .ref n3, .ref n4, .ref n5, .ref n6, .ref n7])), (n3, .inl (k 0, 16, .inl (fun _ => 0))), (n4, .inl (k 0, 16, .inl (fun _ => 0))), (n5, .inl (k 0, 16, .inl (fun _ => 0))), (n6, .inl (k 0, 16, .inl (fun _ => 0))), (n7, .inl (k 0, 16, .inl (fun _ => 0))), (n8, .inr (0, [.ref n9, .ref n10])), (n9, .inl (k 0, 36, .inl (fun _ => 0))), (n10, .inl (k 0, 6, .inl (fun _ => 0))), (n11, .inl (k 0, 6, .inl (fun _ => 0)))]) [0, 13, 14, 1, 2, 3, 4, 5, 6, 7, 8, 9, 10, 11, 12] rfl
  have hD := hD.sub (ws' := [(v0, .inr (9, [.ref d0, .int 0, .int 0, .int 0])), (d0, .inr (5, [.ref e0, .int 900, .int 0, .int 0, .int 0, .long 0, .int 0, .int 0, .int 0, .int 0, .int 0])), (e0, .inr (7, [.ref e1, .int 0])), (n0, .inr (8, [.int 0, .ref n1, .ref n2, .ref n8, .ref n11, .int 1, .int 0, .int 0, .int 0])), (n1, .inl (k 1, 6, .inr (.inl (fun _ => 0)))), (n2, .inr (1, [.int 0, .ref n3, .ref n4, .ref n5, .ref n6, .ref n7])), (n3, .inl (k 0, 16, .inl (fun _ => 0))), (n4, .inl (k 0, 16, .inl (fun _ => 0))), (n5, .inl (k 0, 16, .inl (fun _ => 0))), (n6, .inl (k 0, 16, .inl (fun _ => 0))), (n7, .inl (k 0, 16, .inl (fun _ => 0))), (n8, .inr (0, [.ref n9, .ref n10])), (n9, .inl (k 0, 36, .inl (fun _ => 0))), (n10, .inl (k 0, 6, .inl (fun _ => 0))), (n11, .inl (k 0, 6, .inl (fun _ => 0)))]) [0, 13, 14, 1, 2, 3, 4, 5, 6, 7, 8, 9, 10, 11, 12] (by decide) rfl
  exact g_iret hx hb hr rfl hlocks hK (fun _ => 0) hP hD hS rfl dX11_read_85 ⟨Nat.le_of_ble_eq_true rfl, Nat.le_of_ble_eq_true rfl⟩
set_option maxHeartbeats 4000000 in
set_option maxRecDepth 100000 in
theorem cG_read (l : Launch) (D : va_G) (k : Nat → ClassId) (g0 : Nat) (g1 : Nat) (g2 : Nat) (g3 : Nat) (g4 : Nat) (d0 : Nat) (e0 : Nat) (e1 : Nat) (t0 : Nat) : g_Ci l yX4_read wsX4_read ({ frames := 2, cells := 0, slots := 0, locals := 41 }) D k g_E0 [.ref g0, .ref d0, .ref t0] [(g0, .inr (2, [.ref g1, .ref g2, .ref g3, .ref g4, .int 0, .int 0, .int 0])), (d0, .inr (5, [.ref e0, .int 0, .int 0, .int 0, .int 0, .long 0, .int 0, .int 0, .int 0, .int 0, .int 0])), (e0, .inr (7, [.ref e1, .int 0]))] 1 (fun u => [(g0, .inr (2, [.ref g1, .ref g2, .ref g3, .ref g4, .int 0, .int 0, .int 0])), (d0, .inr (5, [.ref e0, .int 400, .int 0, .int 0, .int 0, .long 0, .int 0, .int 0, .int 0, .int 0, .int 0])), (e0, .inr (7, [.ref e1, .int 0]))]) 0 0 := by
  intro sz
  refine Met.ofW (cc := cX4_read) (maxL := 4) (ret := (some .boolean)) (by decide) rfl ?_
  intro p e s m args below meth c s₁ B hml hv
  obtain ⟨rfl, hsz, hP, hK, hD0, hE⟩ := hv
  have hx := B.exec
  have hb := B.bytes
  have hr := B.returns
  have hts := atoms_spec (ws := wsX4_read) B.pre
  have hown : s.vm.findClass RX4 = some m.cls := findClass_of_methodNamed B.named
  have hlocks := B.notSynchronized
  subst hsz
  have hD := hD0.self (sz := s.heap.size)
  generalize hAe : va_A [(g0, .inr (2, [.ref g1, .ref g2, .ref g3, .ref g4, .int 0, .int 0, .int 0])), (d0, .inr (5, [.ref e0, .int 0, .int 0, .int 0, .int 0, .long 0, .int 0, .int 0, .int 0, .int 0, .int 0])), (e0, .inr (7, [.ref e1, .int 0]))] s.heap.size = A at hD ⊢
  have hA : ∀ q : Nat, s.heap.size ≤ q → A q := fun q h => by rw [← hAe]; exact Or.inr h
  have hS : va_S A s.heap s.heap [] := va_S.rf
  have hP : va_P D vwCl [(g0, .inr (2, [.ref g1, .ref g2, .ref g3, .ref g4, .int 0, .int 0, .int 0])), (d0, .inr (5, [.ref e0, .int 0, .int 0, .int 0, .int 0, .long 0, .int 0, .int 0, .int 0, .int 0, .int 0])), (e0, .inr (7, [.ref e1, .int 0]))] s.heap := hP
  have hl := lv_entry ([.ref g0, .ref d0, .ref t0]) (n := 4) (Nat.le_of_ble_eq_true rfl)
  rw [lg_entry_eq]
  generalize (lg_sl ([.ref g0, .ref d0, .ref t0]) ++ List.replicate (4 - (lg_sl ([.ref g0, .ref d0, .ref t0])).length) Slot.unset).toArray = ls at hl ⊢
  have hl : lv_has ls 4 [(0, .ref g0), (1, .ref d0), (2, .ref t0)] := hl
  refine lv_aload_n hx hb dX4_read_0 rfl (lv_at hl 0 rfl) ?_
  refine lv_iconst (v := 0) hx hb dX4_read_1 (by decide) ?_
  refine va_put (D := D) (ci := 2) (v := .int 0) (ty := .int) (C := RX4) (T := TX4) (N := 7) hx hb hts inX4_read_X4 tyX4 tyX4_ok nmX4 hown hK hP hD hS 0 rfl rfl 4 (by decide) (hts (.fieldLink RX4 31 "RungMoney$Ledger" "size" "I") (by decide +kernel)) (fun _ h9 => h9) rfl (by decide +kernel) rfl rfl (Nat.le_of_ble_eq_true rfl) dX4_read_2 (fun H locs hP hD hS => ?_)
  have hP : va_P D vwCl [(g0, .inr (2, [.ref g1, .ref g2, .ref g3, .ref g4, .int 0, .int 0, .int 0])), (d0, .inr (5, [.ref e0, .int 0, .int 0, .int 0, .int 0, .long 0, .int 0, .int 0, .int 0, .int 0, .int 0])), (e0, .inr (7, [.ref e1, .int 0]))] H := hP
  have hD : va_D A [(g0, .inr (2, [.ref g1, .ref g2, .ref g3, .ref g4, .int 0, .int 0, .int 0])), (d0, .inr (5, [.ref e0, .int 0, .int 0, .int 0, .int 0, .long 0, .int 0, .int 0, .int 0, .int 0, .int 0])), (e0, .inr (7, [.ref e1, .int 0]))] := hD
  refine lv_aload_n hx hb dX4_read_5 rfl (lv_at hl 1 rfl) ?_
  refine lv_sipush (v := 400) hx hb dX4_read_6 (by decide) ?_
  refine g_vV (As := [.int 400]) (rest := []) (wr := [(g0, .inr (2, [.ref g1, .ref g2, .ref g3, .ref g4, .int 0, .int 0, .int 0]))]) ⟨hx, hb, hml, hown, hts⟩ (cR_open400 l D k d0 e0 e1) (cwV 1 hts gX4_read_X7_open rfl rfl rfl (by decide +kernel) ⟨Nat.le_of_ble_eq_true rfl, Nat.le_of_ble_eq_true rfl⟩) g_E0_ok (fun _ _ _ => trivial) hK hP hD hS hA 1 5 rfl rfl rfl [1, 2] [0] rfl rfl (by decide) rfl hl.1 rfl (Nat.le_of_ble_eq_true rfl) dX4_read_9 ⟨Nat.le_of_ble_eq_true rfl, Nat.le_of_ble_eq_true rfl⟩ (fun u1 H locs hP hD hS => ?_)
  have hP : va_P D vwCl [(g0, .inr (2, [.ref g1, .ref g2, .ref g3, .ref g4, .int 0, .int 0, .int 0])), (d0, .inr (5, [.ref e0, .int 400, .int 0, .int 0, .int 0, .long 0, .int 0, .int 0, .int 0, .int 0, .int 0])), (e0, .inr (7, [.ref e1, .int 0]))] H := hP
  have hD : va_D A [(g0, .inr (2, [.ref g1, .ref g2, .ref g3, .ref g4, .int 0, .int 0, .int 0])), (d0, .inr (5, [.ref e0, .int 400, .int 0, .int 0, .int 0, .long 0, .int 0, .int 0, .int 0, .int 0, .int 0])), (e0, .inr (7, [.ref e1, .int 0]))] := hD
  refine lv_iconst (v := 0) hx hb dX4_read_12 (by decide) ?_
  refine lv_istore_n (lv' := [(3, .int 0), (0, .ref g0), (1, .ref d0), (2, .ref t0)]) hx hb dX4_read_13 rfl hl (by decide) rfl (fun ls hl => ?_)
  refine lv_iload_n hx hb dX4_read_14 rfl (lv_at hl 0 rfl) ?_
  refine lv_bipush (v := 40) hx hb dX4_read_15 (by decide) ?_
  refine lv_icmp_gt (tgt := 53) hx hb dX4_read_17 (by decide) (fun h9 => absurd h9 (by decide)) (fun _ => ?_)
  refine lv_aload_n hx hb dX4_read_20 rfl (lv_at hl 2 rfl) ?_
  refine va_get (D := D) (ci := 5) (v := .int 0) (C := RX7) (T := TX7) (N := 11) hx hb hts inX4_read_X7 hown hK hP 1 rfl rfl 4 (by decide) (hts (.fieldLink RX4 41 "RungMoney$Reader" "kind" "I") (by decide +kernel)) (fun _ h9 => h9) rfl dX4_read_21 ?_
  refine lv_if_eq (tgt := 53) hx hb dX4_read_24 (by decide) (fun _ => ?_) (fun h9 => absurd (by decide) h9)
  refine lv_iconst (v := 1) hx hb dX4_read_53 (by decide) ?_
  have hP := hP.sub (ws' := [(g0, .inr (2, [.ref g1, .ref g2, .ref g3, .ref g4, .int 0, .int 0, .int 0])), (d0, .inr (5, [.ref e0, .int 400, .int 0, .int 0, .int 0, .long 0, .int 0, .int 0, .int 0, .int 0, .int 0])), (e0, .inr (7, [.ref e1, .int 0]))]) [0, 1, 2] rfl
  have hD := hD.sub (ws' := [(g0, .inr (2, [.ref g1, .ref g2, .ref g3, .ref g4, .int 0, .int 0, .int 0])), (d0, .inr (5, [.ref e0, .int 400, .int 0, .int 0, .int 0, .long 0, .int 0, .int 0, .int 0, .int 0, .int 0])), (e0, .inr (7, [.ref e1, .int 0]))]) [0, 1, 2] (by decide) rfl
  exact g_iret hx hb hr rfl hlocks hK (fun _ => 0) hP hD hS rfl dX4_read_54 ⟨Nat.le_of_ble_eq_true rfl, Nat.le_of_ble_eq_true rfl⟩
set_option maxHeartbeats 4000000 in
set_option maxRecDepth 100000 in
theorem cG_live (l : Launch) (D : va_G) (k : Nat → ClassId) (g0 : Nat) (g1 : Nat) (g2 : Nat) (g3 : Nat) (g4 : Nat) (n0 : Nat) : g_Cv l yX4_live wsX4_live ({ frames := 0, cells := 0, slots := 0, locals := 0 }) D k g_E0 [.ref g0, .ref n0] [(g0, .inr (2, [.ref g1, .ref g2, .ref g3, .ref g4, .int 0, .int 0, .int 0]))] (fun u => [(g0, .inr (2, [.ref g1, .ref g2, .ref g3, .ref g4, .int 0, .int 0, .int 0]))]) 0 0 := by
  intro sz
  refine Met.ofW (cc := cX4_live) (maxL := 3) (ret := none) (by decide) rfl ?_
  intro p e s m args below meth c s₁ B hml hv
  obtain ⟨rfl, hsz, hP, hK, hD0, hE⟩ := hv
  have hx := B.exec
  have hb := B.bytes
  have hr := B.returns
  have hts := atoms_spec (ws := wsX4_live) B.pre
  have hown : s.vm.findClass RX4 = some m.cls := findClass_of_methodNamed B.named
  have hlocks := B.notSynchronized
  subst hsz
  have hD := hD0.self (sz := s.heap.size)
  generalize hAe : va_A [(g0, .inr (2, [.ref g1, .ref g2, .ref g3, .ref g4, .int 0, .int 0, .int 0]))] s.heap.size = A at hD ⊢
  have hA : ∀ q : Nat, s.heap.size ≤ q → A q := fun q h => by rw [← hAe]; exact Or.inr h
  have hS : va_S A s.heap s.heap [] := va_S.rf
  have hP : va_P D vwCl [(g0, .inr (2, [.ref g1, .ref g2, .ref g3, .ref g4, .int 0, .int 0, .int 0]))] s.heap := hP
  have hl := lv_entry ([.ref g0, .ref n0]) (n := 3) (Nat.le_of_ble_eq_true rfl)
  rw [lg_entry_eq]
  generalize (lg_sl ([.ref g0, .ref n0]) ++ List.replicate (3 - (lg_sl ([.ref g0, .ref n0])).length) Slot.unset).toArray = ls at hl ⊢
  have hl : lv_has ls 3 [(0, .ref g0), (1, .ref n0)] := hl
  refine lv_aload_n hx hb dX4_live_0 rfl (lv_at hl 0 rfl) ?_
  refine lv_iconst (v := 0) hx hb dX4_live_1 (by decide) ?_
  refine va_put (D := D) (ci := 2) (v := .int 0) (ty := .int) (C := RX4) (T := TX4) (N := 7) hx hb hts inX4_live_X4 tyX4 tyX4_ok nmX4 hown hK hP hD hS 0 rfl rfl 6 (by decide) (hts (.fieldLink RX4 96 "RungMoney$Ledger" "why" "I") (by decide +kernel)) (fun _ h9 => h9) rfl (by decide +kernel) rfl rfl (Nat.le_of_ble_eq_true rfl) dX4_live_2 (fun H locs hP hD hS => ?_)
  have hP : va_P D vwCl [(g0, .inr (2, [.ref g1, .ref g2, .ref g3, .ref g4, .int 0, .int 0, .int 0]))] H := hP
  have hD : va_D A [(g0, .inr (2, [.ref g1, .ref g2, .ref g3, .ref g4, .int 0, .int 0, .int 0]))] := hD
  refine lv_aload_n hx hb dX4_live_5 rfl (lv_at hl 0 rfl) ?_
  refine lv_iconst (v := 0) hx hb dX4_live_6 (by decide) ?_
  refine va_put (D := D) (ci := 2) (v := .int 0) (ty := .int) (C := RX4) (T := TX4) (N := 7) hx hb hts inX4_live_X4 tyX4 tyX4_ok nmX4 hown hK hP hD hS 0 rfl rfl 5 (by decide) (hts (.fieldLink RX4 99 "RungMoney$Ledger" "done" "I") (by decide +kernel)) (fun _ h9 => h9) rfl (by decide +kernel) rfl rfl (Nat.le_of_ble_eq_true rfl) dX4_live_7 (fun H locs hP hD hS => ?_)
  have hP : va_P D vwCl [(g0, .inr (2, [.ref g1, .ref g2, .ref g3, .ref g4, .int 0, .int 0, .int 0]))] H := hP
  have hD : va_D A [(g0, .inr (2, [.ref g1, .ref g2, .ref g3, .ref g4, .int 0, .int 0, .int 0]))] := hD
  refine lv_aload_n hx hb dX4_live_10 rfl (lv_at hl 0 rfl) ?_
  refine va_get (D := D) (ci := 2) (v := .int 0) (C := RX4) (T := TX4) (N := 7) hx hb hts inX4_live_X4 hown hK hP 0 rfl rfl 5 (by decide) (hts (.fieldLink RX4 99 "RungMoney$Ledger" "done" "I") (by decide +kernel)) (fun _ h9 => h9) rfl dX4_live_11 ?_
  refine lv_aload_n hx hb dX4_live_14 rfl (lv_at hl 0 rfl) ?_
  refine va_get (D := D) (ci := 2) (v := .int 0) (C := RX4) (T := TX4) (N := 7) hx hb hts inX4_live_X4 hown hK hP 0 rfl rfl 4 (by decide) (hts (.fieldLink RX4 31 "RungMoney$Ledger" "size" "I") (by decide +kernel)) (fun _ h9 => h9) rfl dX4_live_15 ?_
  refine lv_icmp_ge (tgt := 77) hx hb dX4_live_18 (by decide) (fun _ => ?_) (fun h9 => absurd (by decide) h9)
  have hP := hP.sub (ws' := [(g0, .inr (2, [.ref g1, .ref g2, .ref g3, .ref g4, .int 0, .int 0, .int 0]))]) [0] rfl
  have hD := hD.sub (ws' := [(g0, .inr (2, [.ref g1, .ref g2, .ref g3, .ref g4, .int 0, .int 0, .int 0]))]) [0] (by decide) rfl
  exact g_vret hx hb hr hlocks hK (fun _ => 0) hP hD hS dX4_live_77 ⟨Nat.le_of_ble_eq_true rfl, Nat.le_of_ble_eq_true rfl⟩

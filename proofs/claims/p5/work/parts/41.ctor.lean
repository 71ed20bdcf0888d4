theorem dX1_init_0 : decode cX1_init 0 = .ok (.aload_n 0, 1) := by decide +kernel
theorem dX1_init_1 : decode cX1_init 1 = .ok (.invokespecial 3, 3) := by decide +kernel
theorem dX1_init_4 : decode cX1_init 4 = .ok (.aload_n 0, 1) := by decide +kernel
theorem dX1_init_5 : decode cX1_init 5 = .ok (.bipush 36, 2) := by decide +kernel
theorem dX1_init_7 : decode cX1_init 7 = .ok (.newarray .int, 2) := by decide +kernel
theorem dX1_init_9 : decode cX1_init 9 = .ok (.putfield 9, 3) := by decide +kernel
theorem dX1_init_12 : decode cX1_init 12 = .ok (.aload_n 0, 1) := by decide +kernel
theorem dX1_init_13 : decode cX1_init 13 = .ok (.bipush 6, 2) := by decide +kernel
theorem dX1_init_15 : decode cX1_init 15 = .ok (.newarray .int, 2) := by decide +kernel
theorem dX1_init_17 : decode cX1_init 17 = .ok (.putfield 15, 3) := by decide +kernel
theorem dX1_init_20 : decode cX1_init 20 = .ok (.return_, 1) := by decide +kernel
theorem dX3_init_0 : decode cX3_init 0 = .ok (.aload_n 0, 1) := by decide +kernel
theorem dX3_init_1 : decode cX3_init 1 = .ok (.invokespecial 3, 3) := by decide +kernel
theorem dX3_init_4 : decode cX3_init 4 = .ok (.aload_n 0, 1) := by decide +kernel
theorem dX3_init_5 : decode cX3_init 5 = .ok (.bipush 16, 2) := by decide +kernel
theorem dX3_init_7 : decode cX3_init 7 = .ok (.newarray .int, 2) := by decide +kernel
theorem dX3_init_9 : decode cX3_init 9 = .ok (.putfield 9, 3) := by decide +kernel
theorem dX3_init_12 : decode cX3_init 12 = .ok (.aload_n 0, 1) := by decide +kernel
theorem dX3_init_13 : decode cX3_init 13 = .ok (.bipush 16, 2) := by decide +kernel
theorem dX3_init_15 : decode cX3_init 15 = .ok (.newarray .int, 2) := by decide +kernel
theorem dX3_init_17 : decode cX3_init 17 = .ok (.putfield 15, 3) := by decide +kernel
theorem dX3_init_20 : decode cX3_init 20 = .ok (.aload_n 0, 1) := by decide +kernel
theorem dX3_init_21 : decode cX3_init 21 = .ok (.bipush 16, 2) := by decide +kernel
theorem dX3_init_23 : decode cX3_init 23 = .ok (.newarray .int, 2) := by decide +kernel
theorem dX3_init_25 : decode cX3_init 25 = .ok (.putfield 18, 3) := by decide +kernel
theorem dX3_init_28 : decode cX3_init 28 = .ok (.aload_n 0, 1) := by decide +kernel
theorem dX3_init_29 : decode cX3_init 29 = .ok (.bipush 16, 2) := by decide +kernel
theorem dX3_init_31 : decode cX3_init 31 = .ok (.newarray .int, 2) := by decide +kernel
theorem dX3_init_33 : decode cX3_init 33 = .ok (.putfield 21, 3) := by decide +kernel
theorem dX3_init_36 : decode cX3_init 36 = .ok (.aload_n 0, 1) := by decide +kernel
theorem dX3_init_37 : decode cX3_init 37 = .ok (.bipush 16, 2) := by decide +kernel
theorem dX3_init_39 : decode cX3_init 39 = .ok (.newarray .int, 2) := by decide +kernel
theorem dX3_init_41 : decode cX3_init 41 = .ok (.putfield 24, 3) := by decide +kernel
theorem dX3_init_44 : decode cX3_init 44 = .ok (.return_, 1) := by decide +kernel
theorem dX4_init_0 : decode cX4_init 0 = .ok (.aload_n 0, 1) := by decide +kernel
theorem dX4_init_1 : decode cX4_init 1 = .ok (.invokespecial 3, 3) := by decide +kernel
theorem dX4_init_4 : decode cX4_init 4 = .ok (.aload_n 0, 1) := by decide +kernel
theorem dX4_init_5 : decode cX4_init 5 = .ok (.bipush 40, 2) := by decide +kernel
theorem dX4_init_7 : decode cX4_init 7 = .ok (.anewarray 11, 3) := by decide +kernel
theorem dX4_init_10 : decode cX4_init 10 = .ok (.putfield 13, 3) := by decide +kernel
theorem dX4_init_13 : decode cX4_init 13 = .ok (.aload_n 0, 1) := by decide +kernel
theorem dX4_init_14 : decode cX4_init 14 = .ok (.bipush 40, 2) := by decide +kernel
theorem dX4_init_16 : decode cX4_init 16 = .ok (.newarray .int, 2) := by decide +kernel
theorem dX4_init_18 : decode cX4_init 18 = .ok (.putfield 17, 3) := by decide +kernel
theorem dX4_init_21 : decode cX4_init 21 = .ok (.aload_n 0, 1) := by decide +kernel
theorem dX4_init_22 : decode cX4_init 22 = .ok (.bipush 40, 2) := by decide +kernel
theorem dX4_init_24 : decode cX4_init 24 = .ok (.newarray .int, 2) := by decide +kernel
theorem dX4_init_26 : decode cX4_init 26 = .ok (.putfield 21, 3) := by decide +kernel
theorem dX4_init_29 : decode cX4_init 29 = .ok (.aload_n 0, 1) := by decide +kernel
theorem dX4_init_30 : decode cX4_init 30 = .ok (.bipush 40, 2) := by decide +kernel
theorem dX4_init_32 : decode cX4_init 32 = .ok (.newarray .int, 2) := by decide +kernel
theorem dX4_init_34 : decode cX4_init 34 = .ok (.putfield 24, 3) := by decide +kernel
theorem dX4_init_37 : decode cX4_init 37 = .ok (.iconst 0, 1) := by decide +kernel
theorem dX4_init_38 : decode cX4_init 38 = .ok (.istore_n 1, 1) := by decide +kernel
theorem dX4_init_39 : decode cX4_init 39 = .ok (.iload_n 1, 1) := by decide +kernel
theorem dX4_init_40 : decode cX4_init 40 = .ok (.bipush 40, 2) := by decide +kernel
theorem dX4_init_42 : decode cX4_init 42 = .ok (.if_icmp .ge 18, 3) := by decide +kernel
theorem dX4_init_45 : decode cX4_init 45 = .ok (.aload_n 0, 1) := by decide +kernel
theorem dX4_init_46 : decode cX4_init 46 = .ok (.getfield 13, 3) := by decide +kernel
theorem dX4_init_49 : decode cX4_init 49 = .ok (.iload_n 1, 1) := by decide +kernel
theorem dX4_init_50 : decode cX4_init 50 = .ok (.getstatic 27, 3) := by decide +kernel
theorem dX4_init_53 : decode cX4_init 53 = .ok (.aastore, 1) := by decide +kernel
theorem dX4_init_54 : decode cX4_init 54 = .ok (.iinc 1 1, 3) := by decide +kernel
theorem dX4_init_57 : decode cX4_init 57 = .ok (.goto (-18), 3) := by decide +kernel
theorem dX4_init_60 : decode cX4_init 60 = .ok (.return_, 1) := by decide +kernel
theorem dX6_init_0 : decode cX6_init 0 = .ok (.aload_n 0, 1) := by decide +kernel
theorem dX6_init_1 : decode cX6_init 1 = .ok (.invokespecial 5, 3) := by decide +kernel
theorem dX6_init_4 : decode cX6_init 4 = .ok (.aload_n 0, 1) := by decide +kernel
theorem dX6_init_5 : decode cX6_init 5 = .ok (.sipush 513, 3) := by decide +kernel
theorem dX6_init_8 : decode cX6_init 8 = .ok (.newarray .int, 2) := by decide +kernel
theorem dX6_init_10 : decode cX6_init 10 = .ok (.putfield 11, 3) := by decide +kernel
theorem dX6_init_13 : decode cX6_init 13 = .ok (.return_, 1) := by decide +kernel
theorem dX7_init_0 : decode cX7_init 0 = .ok (.aload_n 0, 1) := by decide +kernel
theorem dX7_init_1 : decode cX7_init 1 = .ok (.invokespecial 3, 3) := by decide +kernel
theorem dX7_init_4 : decode cX7_init 4 = .ok (.aload_n 0, 1) := by decide +kernel
theorem dX7_init_5 : decode cX7_init 5 = .ok (.aload_n 1, 1) := by decide +kernel
theorem dX7_init_6 : decode cX7_init 6 = .ok (.putfield 9, 3) := by decide +kernel
theorem dX7_init_9 : decode cX7_init 9 = .ok (.return_, 1) := by decide +kernel
theorem dX8_init_0 : decode cX8_init 0 = .ok (.aload_n 0, 1) := by decide +kernel
theorem dX8_init_1 : decode cX8_init 1 = .ok (.invokespecial 3, 3) := by decide +kernel
theorem dX8_init_4 : decode cX8_init 4 = .ok (.aload_n 0, 1) := by decide +kernel
theorem dX8_init_5 : decode cX8_init 5 = .ok (.bipush 40, 2) := by decide +kernel
theorem dX8_init_7 : decode cX8_init 7 = .ok (.anewarray 9, 3) := by decide +kernel
theorem dX8_init_10 : decode cX8_init 10 = .ok (.putfield 11, 3) := by decide +kernel
theorem dX8_init_13 : decode cX8_init 13 = .ok (.aload_n 0, 1) := by decide +kernel
theorem dX8_init_14 : decode cX8_init 14 = .ok (.bipush 40, 2) := by decide +kernel
theorem dX8_init_16 : decode cX8_init 16 = .ok (.newarray .int, 2) := by decide +kernel
theorem dX8_init_18 : decode cX8_init 18 = .ok (.putfield 15, 3) := by decide +kernel
theorem dX8_init_21 : decode cX8_init 21 = .ok (.aload_n 0, 1) := by decide +kernel
theorem dX8_init_22 : decode cX8_init 22 = .ok (.bipush 40, 2) := by decide +kernel
theorem dX8_init_24 : decode cX8_init 24 = .ok (.newarray .int, 2) := by decide +kernel
theorem dX8_init_26 : decode cX8_init 26 = .ok (.putfield 19, 3) := by decide +kernel
theorem dX8_init_29 : decode cX8_init 29 = .ok (.aload_n 0, 1) := by decide +kernel
theorem dX8_init_30 : decode cX8_init 30 = .ok (.bipush 40, 2) := by decide +kernel
theorem dX8_init_32 : decode cX8_init 32 = .ok (.newarray .int, 2) := by decide +kernel
theorem dX8_init_34 : decode cX8_init 34 = .ok (.putfield 22, 3) := by decide +kernel
theorem dX8_init_37 : decode cX8_init 37 = .ok (.iconst 0, 1) := by decide +kernel
theorem dX8_init_38 : decode cX8_init 38 = .ok (.istore_n 1, 1) := by decide +kernel
theorem dX8_init_39 : decode cX8_init 39 = .ok (.iload_n 1, 1) := by decide +kernel
theorem dX8_init_40 : decode cX8_init 40 = .ok (.bipush 40, 2) := by decide +kernel
theorem dX8_init_42 : decode cX8_init 42 = .ok (.if_icmp .ge 18, 3) := by decide +kernel
theorem dX8_init_45 : decode cX8_init 45 = .ok (.aload_n 0, 1) := by decide +kernel
theorem dX8_init_46 : decode cX8_init 46 = .ok (.getfield 11, 3) := by decide +kernel
theorem dX8_init_49 : decode cX8_init 49 = .ok (.iload_n 1, 1) := by decide +kernel
theorem dX8_init_50 : decode cX8_init 50 = .ok (.getstatic 25, 3) := by decide +kernel
theorem dX8_init_53 : decode cX8_init 53 = .ok (.aastore, 1) := by decide +kernel
theorem dX8_init_54 : decode cX8_init 54 = .ok (.iinc 1 1, 3) := by decide +kernel
theorem dX8_init_57 : decode cX8_init 57 = .ok (.goto (-18), 3) := by decide +kernel
theorem dX8_init_60 : decode cX8_init 60 = .ok (.return_, 1) := by decide +kernel
theorem dX9_init_0 : decode cX9_init 0 = .ok (.aload_n 0, 1) := by decide +kernel
theorem dX9_init_1 : decode cX9_init 1 = .ok (.invokespecial 1, 3) := by decide +kernel
theorem dX9_init_4 : decode cX9_init 4 = .ok (.aload_n 0, 1) := by decide +kernel
theorem dX9_init_5 : decode cX9_init 5 = .ok (.sipush 940, 3) := by decide +kernel
theorem dX9_init_8 : decode cX9_init 8 = .ok (.newarray .int, 2) := by decide +kernel
theorem dX9_init_10 : decode cX9_init 10 = .ok (.putfield 9, 3) := by decide +kernel
theorem dX9_init_13 : decode cX9_init 13 = .ok (.return_, 1) := by decide +kernel
set_option maxRecDepth 20000 in
theorem ggX10_init_X3_init : GoodIn wsX10_init wsX3_init := goodIn_r _ [18, 19, 2, 3, 14, 20, 21, 22, 23, 24, 39, 40, 41, 42, 43, 44] (by decide +kernel) (by decide +kernel)
set_option maxRecDepth 20000 in
theorem ggX10_init_X1_init : GoodIn wsX10_init wsX1_init := goodIn_r _ [26, 27, 2, 3, 14, 28, 29, 45, 46] (by decide +kernel) (by decide +kernel)
theorem dX10_init_0 : decode cX10_init 0 = .ok (.aload_n 0, 1) := by decide +kernel
theorem dX10_init_1 : decode cX10_init 1 = .ok (.invokespecial 3, 3) := by decide +kernel
theorem dX10_init_4 : decode cX10_init 4 = .ok (.aload_n 0, 1) := by decide +kernel
theorem dX10_init_5 : decode cX10_init 5 = .ok (.bipush 6, 2) := by decide +kernel
theorem dX10_init_7 : decode cX10_init 7 = .ok (.newarray .long, 2) := by decide +kernel
theorem dX10_init_9 : decode cX10_init 9 = .ok (.putfield 9, 3) := by decide +kernel
theorem dX10_init_12 : decode cX10_init 12 = .ok (.aload_n 0, 1) := by decide +kernel
theorem dX10_init_13 : decode cX10_init 13 = .ok (.new 15, 3) := by decide +kernel
theorem dX10_init_16 : decode cX10_init 16 = .ok (.dup, 1) := by decide +kernel
theorem dX10_init_17 : decode cX10_init 17 = .ok (.invokespecial 17, 3) := by decide +kernel
theorem dX10_init_20 : decode cX10_init 20 = .ok (.putfield 18, 3) := by decide +kernel
theorem dX10_init_23 : decode cX10_init 23 = .ok (.aload_n 0, 1) := by decide +kernel
theorem dX10_init_24 : decode cX10_init 24 = .ok (.new 22, 3) := by decide +kernel
theorem dX10_init_27 : decode cX10_init 27 = .ok (.dup, 1) := by decide +kernel
theorem dX10_init_28 : decode cX10_init 28 = .ok (.invokespecial 24, 3) := by decide +kernel
theorem dX10_init_31 : decode cX10_init 31 = .ok (.putfield 25, 3) := by decide +kernel
theorem dX10_init_34 : decode cX10_init 34 = .ok (.aload_n 0, 1) := by decide +kernel
theorem dX10_init_35 : decode cX10_init 35 = .ok (.bipush 6, 2) := by decide +kernel
theorem dX10_init_37 : decode cX10_init 37 = .ok (.newarray .int, 2) := by decide +kernel
theorem dX10_init_39 : decode cX10_init 39 = .ok (.putfield 29, 3) := by decide +kernel
theorem dX10_init_42 : decode cX10_init 42 = .ok (.aload_n 0, 1) := by decide +kernel
theorem dX10_init_43 : decode cX10_init 43 = .ok (.iconst 1, 1) := by decide +kernel
theorem dX10_init_44 : decode cX10_init 44 = .ok (.putfield 33, 3) := by decide +kernel
theorem dX10_init_47 : decode cX10_init 47 = .ok (.return_, 1) := by decide +kernel
theorem dX11_init_0 : decode cX11_init 0 = .ok (.aload_n 0, 1) := by decide +kernel
theorem dX11_init_1 : decode cX11_init 1 = .ok (.invokespecial 3, 3) := by decide +kernel
theorem dX11_init_4 : decode cX11_init 4 = .ok (.aload_n 0, 1) := by decide +kernel
theorem dX11_init_5 : decode cX11_init 5 = .ok (.aload_n 1, 1) := by decide +kernel
theorem dX11_init_6 : decode cX11_init 6 = .ok (.putfield 9, 3) := by decide +kernel
theorem dX11_init_9 : decode cX11_init 9 = .ok (.return_, 1) := by decide +kernel
theorem inX3_init_X3 : ∀ w ∈ wsX30, w ∈ wsX3_init := by decide +kernel
theorem inX1_init_X1 : ∀ w ∈ wsX10, w ∈ wsX1_init := by decide +kernel
theorem inX10_init_X10 : ∀ w ∈ wsX100, w ∈ wsX10_init := by decide +kernel
theorem inX10_init_X3 : ∀ w ∈ wsX30, w ∈ wsX10_init := by decide +kernel
theorem inX10_init_X1 : ∀ w ∈ wsX10, w ∈ wsX10_init := by decide +kernel
theorem inX9_init_X9 : ∀ w ∈ wsX90, w ∈ wsX9_init := by decide +kernel
theorem inX7_init_X7 : ∀ w ∈ wsX70, w ∈ wsX7_init := by decide +kernel
theorem inX11_init_X11 : ∀ w ∈ wsX110, w ∈ wsX11_init := by decide +kernel
theorem inX6_init_X6 : ∀ w ∈ wsX60, w ∈ wsX6_init := by decide +kernel
theorem inX8_init_X8 : ∀ w ∈ wsX80, w ∈ wsX8_init := by decide +kernel
theorem inX4_init_X4 : ∀ w ∈ wsX40, w ∈ wsX4_init := by decide +kernel
set_option maxHeartbeats 4000000 in
set_option maxRecDepth 100000 in
theorem cL_init (l : Launch) (D : va_G) (k : Nat → ClassId) (a2 : Nat) : g_Cv l yX3_init wsX3_init ({ frames := 1, cells := 5, slots := 80, locals := 12 }) D k g_E0 [.ref a2] [(a2, .inr (1, [.int 0, .null, .null, .null, .null, .null]))] (fun u => [(a2, .inr (1, [.int 0, .ref (u 0), .ref (u 1), .ref (u 2), .ref (u 3), .ref (u 4)])), ((u 0), .inl (k 0, 16, .inl (fun _ => 0))), ((u 1), .inl (k 0, 16, .inl (fun _ => 0))), ((u 2), .inl (k 0, 16, .inl (fun _ => 0))), ((u 3), .inl (k 0, 16, .inl (fun _ => 0))), ((u 4), .inl (k 0, 16, .inl (fun _ => 0)))]) 5 80 := by
  intro sz
  refine Met.ofW (cc := cX3_init) (maxL := 1) (ret := none) (by decide) rfl ?_
  intro p e s m args below meth c s₁ B hml hv
  obtain ⟨rfl, hsz, hP, hK, hD0, hE⟩ := hv
  have hx := B.exec
  have hb := B.bytes
  have hr := B.returns
  have hts := atoms_spec (ws := wsX3_init) B.pre
  have hown : s.vm.findClass RX3 = some m.cls := findClass_of_methodNamed B.named
  have hlocks := B.notSynchronized
  have hin : meth.name = "<init>" := (name_of_methodNamed B.named B.method).1
  subst hsz
  have hD := hD0.self (sz := s.heap.size)
  generalize hAe : va_A [(a2, .inr (1, [.int 0, .null, .null, .null, .null, .null]))] s.heap.size = A at hD ⊢
  have hA : ∀ q : Nat, s.heap.size ≤ q → A q := fun q h => by rw [← hAe]; exact Or.inr h
  have hS : va_S A s.heap s.heap [] := va_S.rf
  have hP : va_P D vwCl [(a2, .inr (1, [.int 0, .null, .null, .null, .null, .null]))] s.heap := hP
  have hl := lv_entry ([.ref a2]) (n := 1) (Nat.le_of_ble_eq_true rfl)
  rw [lg_entry_eq]
  generalize (lg_sl ([.ref a2]) ++ List.replicate (1 - (lg_sl ([.ref a2])).length) Slot.unset).toArray = ls at hl ⊢
  have hl : lv_has ls 1 [(0, .ref a2)] := hl
  refine lv_aload_n hx hb dX3_init_0 rfl (lv_at hl 0 rfl) ?_
  refine W.objInit hx hb hown (hts (.methodLink RX3 3 objectInit) (by decide +kernel)) (hts (.instanceMethod objectInit) (by decide +kernel)) (hts (.code objectInit ⟨#[0xb1]⟩ 1 none) (by decide +kernel)) rfl (by rw [hml]; exact hl.1) rfl dX3_init_1 (Nat.le_of_ble_eq_true rfl) (Nat.le_of_ble_eq_true rfl) ?_
  refine W.eq (g2 := F0 m 4 ls []) rfl ?_
  refine lv_aload_n hx hb dX3_init_4 rfl (lv_at hl 0 rfl) ?_
  refine lv_bipush (v := 16) hx hb dX3_init_5 (by decide) ?_
  refine va_newa (atype := .int) (a0 := (16, .inl (fun _ => 0))) (ty := .int) hx hb (hts (.arrayClass .int) (by decide +kernel)) rfl hK hP hD hS hA (fun _ => rfl) (by decide) rfl (by decide) (Nat.le_of_ble_eq_true rfl) (Nat.le_of_ble_eq_true rfl) dX3_init_7 (fun q1 cA2 H hK9 hP hD hS => ?_)
  obtain rfl := g_cls (cA := k 0) (cB := cA2) (ty := .int) 0 7 hK9 rfl rfl rfl
  have hP : va_P D vwCl [(a2, .inr (1, [.int 0, .null, .null, .null, .null, .null])), (q1, .inl (k 0, 16, .inl (fun _ => 0)))] H := hP
  have hD : va_D A [(a2, .inr (1, [.int 0, .null, .null, .null, .null, .null])), (q1, .inl (k 0, 16, .inl (fun _ => 0)))] := hD
  refine W.widen (k := 1) (n := 16) (Nat.le_of_ble_eq_true rfl) (Nat.le_of_ble_eq_true rfl) ?_
  refine va_putF (D := D) (ci := 1) (v := .ref q1) (ty := .array .int) (C := RX3) (T := TX3) (N := 6) hx hb hts inX3_init_X3 tyX3 tyX3_ok nmX3 hown hK hP hD hS 0 rfl rfl 1 (by decide) (hts (.fieldLink RX3 9 "RungMoney$Ladders" "owners" "[I") (by decide +kernel)) (fun _ h9 => h9) rfl hin rfl (by decide +kernel) rfl rfl (Nat.le_of_ble_eq_true rfl) dX3_init_9 (fun H locs hP hD hS => ?_)
  have hP : va_P D vwCl [(a2, .inr (1, [.int 0, .ref q1, .null, .null, .null, .null])), (q1, .inl (k 0, 16, .inl (fun _ => 0)))] H := hP
  have hD : va_D A [(a2, .inr (1, [.int 0, .ref q1, .null, .null, .null, .null])), (q1, .inl (k 0, 16, .inl (fun _ => 0)))] := hD
  refine lv_aload_n hx hb dX3_init_12 rfl (lv_at hl 0 rfl) ?_
  refine lv_bipush (v := 16) hx hb dX3_init_13 (by decide) ?_
  refine va_newa (atype := .int) (a0 := (16, .inl (fun _ => 0))) (ty := .int) hx hb (hts (.arrayClass .int) (by decide +kernel)) rfl hK hP hD hS hA (fun _ => rfl) (by decide) rfl (by decide) (Nat.le_of_ble_eq_true rfl) (Nat.le_of_ble_eq_true rfl) dX3_init_15 (fun q3 cA4 H hK9 hP hD hS => ?_)
  obtain rfl := g_cls (cA := k 0) (cB := cA4) (ty := .int) 0 7 hK9 rfl rfl rfl
  have hP : va_P D vwCl [(a2, .inr (1, [.int 0, .ref q1, .null, .null, .null, .null])), (q1, .inl (k 0, 16, .inl (fun _ => 0))), (q3, .inl (k 0, 16, .inl (fun _ => 0)))] H := hP
  have hD : va_D A [(a2, .inr (1, [.int 0, .ref q1, .null, .null, .null, .null])), (q1, .inl (k 0, 16, .inl (fun _ => 0))), (q3, .inl (k 0, 16, .inl (fun _ => 0)))] := hD
  refine W.widen (k := 2) (n := 32) (Nat.le_of_ble_eq_true rfl) (Nat.le_of_ble_eq_true rfl) ?_
  refine va_putF (D := D) (ci := 1) (v := .ref q3) (ty := .array .int) (C := RX3) (T := TX3) (N := 6) hx hb hts inX3_init_X3 tyX3 tyX3_ok nmX3 hown hK hP hD hS 0 rfl rfl 2 (by decide) (hts (.fieldLink RX3 15 "RungMoney$Ladders" "lengths" "[I") (by decide +kernel)) (fun _ h9 => h9) rfl hin rfl (by decide +kernel) rfl rfl (Nat.le_of_ble_eq_true rfl) dX3_init_17 (fun H locs hP hD hS => ?_)
  have hP : va_P D vwCl [(a2, .inr (1, [.int 0, .ref q1, .ref q3, .null, .null, .null])), (q1, .inl (k 0, 16, .inl (fun _ => 0))), (q3, .inl (k 0, 16, .inl (fun _ => 0)))] H := hP
  have hD : va_D A [(a2, .inr (1, [.int 0, .ref q1, .ref q3, .null, .null, .null])), (q1, .inl (k 0, 16, .inl (fun _ => 0))), (q3, .inl (k 0, 16, .inl (fun _ => 0)))] := hD
  refine lv_aload_n hx hb dX3_init_20 rfl (lv_at hl 0 rfl) ?_
  refine lv_bipush (v := 16) hx hb dX3_init_21 (by decide) ?_
  refine va_newa (atype := .int) (a0 := (16, .inl (fun _ => 0))) (ty := .int) hx hb (hts (.arrayClass .int) (by decide +kernel)) rfl hK hP hD hS hA (fun _ => rfl) (by decide) rfl (by decide) (Nat.le_of_ble_eq_true rfl) (Nat.le_of_ble_eq_true rfl) dX3_init_23 (fun q5 cA6 H hK9 hP hD hS => ?_)
  obtain rfl := g_cls (cA := k 0) (cB := cA6) (ty := .int) 0 7 hK9 rfl rfl rfl
  have hP : va_P D vwCl [(a2, .inr (1, [.int 0, .ref q1, .ref q3, .null, .null, .null])), (q1, .inl (k 0, 16, .inl (fun _ => 0))), (q3, .inl (k 0, 16, .inl (fun _ => 0))), (q5, .inl (k 0, 16, .inl (fun _ => 0)))] H := hP
  have hD : va_D A [(a2, .inr (1, [.int 0, .ref q1, .ref q3, .null, .null, .null])), (q1, .inl (k 0, 16, .inl (fun _ => 0))), (q3, .inl (k 0, 16, .inl (fun _ => 0))), (q5, .inl (k 0, 16, .inl (fun _ => 0)))] := hD
  refine W.widen (k := 3) (n := 48) (Nat.le_of_ble_eq_true rfl) (Nat.le_of_ble_eq_true rfl) ?_
  refine va_putF (D := D) (ci := 1) (v := .ref q5) (ty := .array .int) (C := RX3) (T := TX3) (N := 6) hx hb hts inX3_init_X3 tyX3 tyX3_ok nmX3 hown hK hP hD hS 0 rfl rfl 3 (by decide) (hts (.fieldLink RX3 18 "RungMoney$Ladders" "sounds" "[I") (by decide +kernel)) (fun _ h9 => h9) rfl hin rfl (by decide +kernel) rfl rfl (Nat.le_of_ble_eq_true rfl) dX3_init_25 (fun H locs hP hD hS => ?_)
  have hP : va_P D vwCl [(a2, .inr (1, [.int 0, .ref q1, .ref q3, .ref q5, .null, .null])), (q1, .inl (k 0, 16, .inl (fun _ => 0))), (q3, .inl (k 0, 16, .inl (fun _ => 0))), (q5, .inl (k 0, 16, .inl (fun _ => 0)))] H := hP
  have hD : va_D A [(a2, .inr (1, [.int 0, .ref q1, .ref q3, .ref q5, .null, .null])), (q1, .inl (k 0, 16, .inl (fun _ => 0))), (q3, .inl (k 0, 16, .inl (fun _ => 0))), (q5, .inl (k 0, 16, .inl (fun _ => 0)))] := hD
  refine lv_aload_n hx hb dX3_init_28 rfl (lv_at hl 0 rfl) ?_
  refine lv_bipush (v := 16) hx hb dX3_init_29 (by decide) ?_
  refine va_newa (atype := .int) (a0 := (16, .inl (fun _ => 0))) (ty := .int) hx hb (hts (.arrayClass .int) (by decide +kernel)) rfl hK hP hD hS hA (fun _ => rfl) (by decide) rfl (by decide) (Nat.le_of_ble_eq_true rfl) (Nat.le_of_ble_eq_true rfl) dX3_init_31 (fun q7 cA8 H hK9 hP hD hS => ?_)
  obtain rfl := g_cls (cA := k 0) (cB := cA8) (ty := .int) 0 7 hK9 rfl rfl rfl
  have hP : va_P D vwCl [(a2, .inr (1, [.int 0, .ref q1, .ref q3, .ref q5, .null, .null])), (q1, .inl (k 0, 16, .inl (fun _ => 0))), (q3, .inl (k 0, 16, .inl (fun _ => 0))), (q5, .inl (k 0, 16, .inl (fun _ => 0))), (q7, .inl (k 0, 16, .inl (fun _ => 0)))] H := hP
  have hD : va_D A [(a2, .inr (1, [.int 0, .ref q1, .ref q3, .ref q5, .null, .null])), (q1, .inl (k 0, 16, .inl (fun _ => 0))), (q3, .inl (k 0, 16, .inl (fun _ => 0))), (q5, .inl (k 0, 16, .inl (fun _ => 0))), (q7, .inl (k 0, 16, .inl (fun _ => 0)))] := hD
  refine W.widen (k := 4) (n := 64) (Nat.le_of_ble_eq_true rfl) (Nat.le_of_ble_eq_true rfl) ?_
  refine va_putF (D := D) (ci := 1) (v := .ref q7) (ty := .array .int) (C := RX3) (T := TX3) (N := 6) hx hb hts inX3_init_X3 tyX3 tyX3_ok nmX3 hown hK hP hD hS 0 rfl rfl 4 (by decide) (hts (.fieldLink RX3 21 "RungMoney$Ladders" "paints" "[I") (by decide +kernel)) (fun _ h9 => h9) rfl hin rfl (by decide +kernel) rfl rfl (Nat.le_of_ble_eq_true rfl) dX3_init_33 (fun H locs hP hD hS => ?_)
  have hP : va_P D vwCl [(a2, .inr (1, [.int 0, .ref q1, .ref q3, .ref q5, .ref q7, .null])), (q1, .inl (k 0, 16, .inl (fun _ => 0))), (q3, .inl (k 0, 16, .inl (fun _ => 0))), (q5, .inl (k 0, 16, .inl (fun _ => 0))), (q7, .inl (k 0, 16, .inl (fun _ => 0)))] H := hP
  have hD : va_D A [(a2, .inr (1, [.int 0, .ref q1, .ref q3, .ref q5, .ref q7, .null])), (q1, .inl (k 0, 16, .inl (fun _ => 0))), (q3, .inl (k 0, 16, .inl (fun _ => 0))), (q5, .inl (k 0, 16, .inl (fun _ => 0))), (q7, .inl (k 0, 16, .inl (fun _ => 0)))] := hD
  refine lv_aload_n hx hb dX3_init_36 rfl (lv_at hl 0 rfl) ?_
  refine lv_bipush (v := 16) hx hb dX3_init_37 (by decide) ?_
  refine va_newa (atype := .int) (a0 := (16, .inl (fun _ => 0))) (ty := .int) hx hb (hts (.arrayClass .int) (by decide +kernel)) rfl hK hP hD hS hA (fun _ => rfl) (by decide) rfl (by decide) (Nat.le_of_ble_eq_true rfl) (Nat.le_of_ble_eq_true rfl) dX3_init_39 (fun q9 cA10 H hK9 hP hD hS => ?_)
  obtain rfl := g_cls (cA := k 0) (cB := cA10) (ty := .int) 0 7 hK9 rfl rfl rfl
  have hP : va_P D vwCl [(a2, .inr (1, [.int 0, .ref q1, .ref q3, .ref q5, .ref q7, .null])), (q1, .inl (k 0, 16, .inl (fun _ => 0))), (q3, .inl (k 0, 16, .inl (fun _ => 0))), (q5, .inl (k 0, 16, .inl (fun _ => 0))), (q7, .inl (k 0, 16, .inl (fun _ => 0))), (q9, .inl (k 0, 16, .inl (fun _ => 0)))] H := hP
  have hD : va_D A [(a2, .inr (1, [.int 0, .ref q1, .ref q3, .ref q5, .ref q7, .null])), (q1, .inl (k 0, 16, .inl (fun _ => 0))), (q3, .inl (k 0, 16, .inl (fun _ => 0))), (q5, .inl (k 0, 16, .inl (fun _ => 0))), (q7, .inl (k 0, 16, .inl (fun _ => 0))), (q9, .inl (k 0, 16, .inl (fun _ => 0)))] := hD
  refine W.widen (k := 5) (n := 80) (Nat.le_of_ble_eq_true rfl) (Nat.le_of_ble_eq_true rfl) ?_
  refine va_putF (D := D) (ci := 1) (v := .ref q9) (ty := .array .int) (C := RX3) (T := TX3) (N := 6) hx hb hts inX3_init_X3 tyX3 tyX3_ok nmX3 hown hK hP hD hS 0 rfl rfl 5 (by decide) (hts (.fieldLink RX3 24 "RungMoney$Ladders" "hands" "[I") (by decide +kernel)) (fun _ h9 => h9) rfl hin rfl (by decide +kernel) rfl rfl (Nat.le_of_ble_eq_true rfl) dX3_init_41 (fun H locs hP hD hS => ?_)
  have hP : va_P D vwCl [(a2, .inr (1, [.int 0, .ref q1, .ref q3, .ref q5, .ref q7, .ref q9])), (q1, .inl (k 0, 16, .inl (fun _ => 0))), (q3, .inl (k 0, 16, .inl (fun _ => 0))), (q5, .inl (k 0, 16, .inl (fun _ => 0))), (q7, .inl (k 0, 16, .inl (fun _ => 0))), (q9, .inl (k 0, 16, .inl (fun _ => 0)))] H := hP
  have hD : va_D A [(a2, .inr (1, [.int 0, .ref q1, .ref q3, .ref q5, .ref q7, .ref q9])), (q1, .inl (k 0, 16, .inl (fun _ => 0))), (q3, .inl (k 0, 16, .inl (fun _ => 0))), (q5, .inl (k 0, 16, .inl (fun _ => 0))), (q7, .inl (k 0, 16, .inl (fun _ => 0))), (q9, .inl (k 0, 16, .inl (fun _ => 0)))] := hD
  have hP := hP.sub (ws' := [(a2, .inr (1, [.int 0, .ref q1, .ref q3, .ref q5, .ref q7, .ref q9])), (q1, .inl (k 0, 16, .inl (fun _ => 0))), (q3, .inl (k 0, 16, .inl (fun _ => 0))), (q5, .inl (k 0, 16, .inl (fun _ => 0))), (q7, .inl (k 0, 16, .inl (fun _ => 0))), (q9, .inl (k 0, 16, .inl (fun _ => 0)))]) [0, 1, 2, 3, 4, 5] rfl
  have hD := hD.sub (ws' := [(a2, .inr (1, [.int 0, .ref q1, .ref q3, .ref q5, .ref q7, .ref q9])), (q1, .inl (k 0, 16, .inl (fun _ => 0))), (q3, .inl (k 0, 16, .inl (fun _ => 0))), (q5, .inl (k 0, 16, .inl (fun _ => 0))), (q7, .inl (k 0, 16, .inl (fun _ => 0))), (q9, .inl (k 0, 16, .inl (fun _ => 0)))]) [0, 1, 2, 3, 4, 5] (by decide) rfl
  exact g_vret hx hb hr hlocks hK (g_lg [q1, q3, q5, q7, q9]) hP hD hS dX3_init_44 ⟨Nat.le_of_ble_eq_true rfl, Nat.le_of_ble_eq_true rfl⟩
set_option maxHeartbeats 4000000 in
set_option maxRecDepth 100000 in
theorem cD_init (l : Launch) (D : va_G) (k : Nat → ClassId) (a8 : Nat) : g_Cv l yX1_init wsX1_init ({ frames := 1, cells := 2, slots := 42, locals := 12 }) D k g_E0 [.ref a8] [(a8, .inr (0, [.null, .null]))] (fun u => [(a8, .inr (0, [.ref (u 0), .ref (u 1)])), ((u 0), .inl (k 0, 36, .inl (fun _ => 0))), ((u 1), .inl (k 0, 6, .inl (fun _ => 0)))]) 2 42 := by
  intro sz
  refine Met.ofW (cc := cX1_init) (maxL := 1) (ret := none) (by decide) rfl ?_
  intro p e s m args below meth c s₁ B hml hv
  obtain ⟨rfl, hsz, hP, hK, hD0, hE⟩ := hv
  have hx := B.exec
  have hb := B.bytes
  have hr := B.returns
  have hts := atoms_spec (ws := wsX1_init) B.pre
  have hown : s.vm.findClass RX1 = some m.cls := findClass_of_methodNamed B.named
  have hlocks := B.notSynchronized
  have hin : meth.name = "<init>" := (name_of_methodNamed B.named B.method).1
  subst hsz
  have hD := hD0.self (sz := s.heap.size)
  generalize hAe : va_A [(a8, .inr (0, [.null, .null]))] s.heap.size = A at hD ⊢
  have hA : ∀ q : Nat, s.heap.size ≤ q → A q := fun q h => by rw [← hAe]; exact Or.inr h
  have hS : va_S A s.heap s.heap [] := va_S.rf
  have hP : va_P D vwCl [(a8, .inr (0, [.null, .null]))] s.heap := hP
  have hl := lv_entry ([.ref a8]) (n := 1) (Nat.le_of_ble_eq_true rfl)
  rw [lg_entry_eq]
  generalize (lg_sl ([.ref a8]) ++ List.replicate (1 - (lg_sl ([.ref a8])).length) Slot.unset).toArray = ls at hl ⊢
  have hl : lv_has ls 1 [(0, .ref a8)] := hl
  refine lv_aload_n hx hb dX1_init_0 rfl (lv_at hl 0 rfl) ?_
  refine W.objInit hx hb hown (hts (.methodLink RX1 3 objectInit) (by decide +kernel)) (hts (.instanceMethod objectInit) (by decide +kernel)) (hts (.code objectInit ⟨#[0xb1]⟩ 1 none) (by decide +kernel)) rfl (by rw [hml]; exact hl.1) rfl dX1_init_1 (Nat.le_of_ble_eq_true rfl) (Nat.le_of_ble_eq_true rfl) ?_
  refine W.eq (g2 := F0 m 4 ls []) rfl ?_
  refine lv_aload_n hx hb dX1_init_4 rfl (lv_at hl 0 rfl) ?_
  refine lv_bipush (v := 36) hx hb dX1_init_5 (by decide) ?_
  refine va_newa (atype := .int) (a0 := (36, .inl (fun _ => 0))) (ty := .int) hx hb (hts (.arrayClass .int) (by decide +kernel)) rfl hK hP hD hS hA (fun _ => rfl) (by decide) rfl (by decide) (Nat.le_of_ble_eq_true rfl) (Nat.le_of_ble_eq_true rfl) dX1_init_7 (fun q1 cA2 H hK9 hP hD hS => ?_)
  obtain rfl := g_cls (cA := k 0) (cB := cA2) (ty := .int) 0 7 hK9 rfl rfl rfl
  have hP : va_P D vwCl [(a8, .inr (0, [.null, .null])), (q1, .inl (k 0, 36, .inl (fun _ => 0)))] H := hP
  have hD : va_D A [(a8, .inr (0, [.null, .null])), (q1, .inl (k 0, 36, .inl (fun _ => 0)))] := hD
  refine W.widen (k := 1) (n := 36) (Nat.le_of_ble_eq_true rfl) (Nat.le_of_ble_eq_true rfl) ?_
  refine va_putF (D := D) (ci := 0) (v := .ref q1) (ty := .array .int) (C := RX1) (T := TX1) (N := 2) hx hb hts inX1_init_X1 tyX1 tyX1_ok nmX1 hown hK hP hD hS 0 rfl rfl 0 (by decide) (hts (.fieldLink RX1 9 "RungMoney$Debts" "rows" "[I") (by decide +kernel)) (fun _ h9 => h9) rfl hin rfl (by decide +kernel) rfl rfl (Nat.le_of_ble_eq_true rfl) dX1_init_9 (fun H locs hP hD hS => ?_)
  have hP : va_P D vwCl [(a8, .inr (0, [.ref q1, .null])), (q1, .inl (k 0, 36, .inl (fun _ => 0)))] H := hP
  have hD : va_D A [(a8, .inr (0, [.ref q1, .null])), (q1, .inl (k 0, 36, .inl (fun _ => 0)))] := hD
  refine lv_aload_n hx hb dX1_init_12 rfl (lv_at hl 0 rfl) ?_
  refine lv_bipush (v := 6) hx hb dX1_init_13 (by decide) ?_
  refine va_newa (atype := .int) (a0 := (6, .inl (fun _ => 0))) (ty := .int) hx hb (hts (.arrayClass .int) (by decide +kernel)) rfl hK hP hD hS hA (fun _ => rfl) (by decide) rfl (by decide) (Nat.le_of_ble_eq_true rfl) (Nat.le_of_ble_eq_true rfl) dX1_init_15 (fun q3 cA4 H hK9 hP hD hS => ?_)
  obtain rfl := g_cls (cA := k 0) (cB := cA4) (ty := .int) 0 7 hK9 rfl rfl rfl
  have hP : va_P D vwCl [(a8, .inr (0, [.ref q1, .null])), (q1, .inl (k 0, 36, .inl (fun _ => 0))), (q3, .inl (k 0, 6, .inl (fun _ => 0)))] H := hP
  have hD : va_D A [(a8, .inr (0, [.ref q1, .null])), (q1, .inl (k 0, 36, .inl (fun _ => 0))), (q3, .inl (k 0, 6, .inl (fun _ => 0)))] := hD
  refine W.widen (k := 2) (n := 42) (Nat.le_of_ble_eq_true rfl) (Nat.le_of_ble_eq_true rfl) ?_
  refine va_putF (D := D) (ci := 0) (v := .ref q3) (ty := .array .int) (C := RX1) (T := TX1) (N := 2) hx hb hts inX1_init_X1 tyX1 tyX1_ok nmX1 hown hK hP hD hS 0 rfl rfl 1 (by decide) (hts (.fieldLink RX1 15 "RungMoney$Debts" "balances" "[I") (by decide +kernel)) (fun _ h9 => h9) rfl hin rfl (by decide +kernel) rfl rfl (Nat.le_of_ble_eq_true rfl) dX1_init_17 (fun H locs hP hD hS => ?_)
  have hP : va_P D vwCl [(a8, .inr (0, [.ref q1, .ref q3])), (q1, .inl (k 0, 36, .inl (fun _ => 0))), (q3, .inl (k 0, 6, .inl (fun _ => 0)))] H := hP
  have hD : va_D A [(a8, .inr (0, [.ref q1, .ref q3])), (q1, .inl (k 0, 36, .inl (fun _ => 0))), (q3, .inl (k 0, 6, .inl (fun _ => 0)))] := hD
  have hP := hP.sub (ws' := [(a8, .inr (0, [.ref q1, .ref q3])), (q1, .inl (k 0, 36, .inl (fun _ => 0))), (q3, .inl (k 0, 6, .inl (fun _ => 0)))]) [0, 1, 2] rfl
  have hD := hD.sub (ws' := [(a8, .inr (0, [.ref q1, .ref q3])), (q1, .inl (k 0, 36, .inl (fun _ => 0))), (q3, .inl (k 0, 6, .inl (fun _ => 0)))]) [0, 1, 2] (by decide) rfl
  exact g_vret hx hb hr hlocks hK (g_lg [q1, q3]) hP hD hS dX1_init_20 ⟨Nat.le_of_ble_eq_true rfl, Nat.le_of_ble_eq_true rfl⟩
set_option maxHeartbeats 4000000 in
set_option maxRecDepth 100000 in
theorem cT_init (l : Launch) (D : va_G) (k : Nat → ClassId) (B0 : Nat) (ad : Nat → Nat) (al : Nat) (a0 : Nat) : g_Cv l yX10_init wsX10_init ({ frames := 2, cells := 11, slots := 142, locals := 32 }) D k (gX B0 ad al [(a0, .inr (8, [.int 0, .null, .null, .null, .null, .int 0, .int 0, .int 0, .int 0]))]) [.ref a0] [(a0, .inr (8, [.int 0, .null, .null, .null, .null, .int 0, .int 0, .int 0, .int 0]))] (fun u => [(a0, .inr (8, [.int 0, .ref (u 0), .ref (u 1), .ref (u 7), .ref (u 10), .int 1, .int 0, .int 0, .int 0])), ((u 0), .inl (k 1, 6, .inr (.inl (fun _ => 0)))), ((u 1), .inr (1, [.int 0, .ref (u 2), .ref (u 3), .ref (u 4), .ref (u 5), .ref (u 6)])), ((u 2), .inl (k 0, 16, .inl (fun _ => 0))), ((u 3), .inl (k 0, 16, .inl (fun _ => 0))), ((u 4), .inl (k 0, 16, .inl (fun _ => 0))), ((u 5), .inl (k 0, 16, .inl (fun _ => 0))), ((u 6), .inl (k 0, 16, .inl (fun _ => 0))), ((u 7), .inr (0, [.ref (u 8), .ref (u 9)])), ((u 8), .inl (k 0, 36, .inl (fun _ => 0))), ((u 9), .inl (k 0, 6, .inl (fun _ => 0))), ((u 10), .inl (k 0, 6, .inl (fun _ => 0)))]) 11 142 := by
  intro sz
  refine Met.ofW (cc := cX10_init) (maxL := 1) (ret := none) (by decide) rfl ?_
  intro p e s m args below meth c s₁ B hml hv
  obtain ⟨rfl, hsz, hP, hK, hD0, hE⟩ := hv
  have hx := B.exec
  have hb := B.bytes
  have hr := B.returns
  have hts := atoms_spec (ws := wsX10_init) B.pre
  have hown : s.vm.findClass RX10 = some m.cls := findClass_of_methodNamed B.named
  have hlocks := B.notSynchronized
  have hin : meth.name = "<init>" := (name_of_methodNamed B.named B.method).1
  subst hsz
  have hD := hD0.self (sz := s.heap.size)
  generalize hAe : va_A [(a0, .inr (8, [.int 0, .null, .null, .null, .null, .int 0, .int 0, .int 0, .int 0]))] s.heap.size = A at hD ⊢
  have hA : ∀ q : Nat, s.heap.size ≤ q → A q := fun q h => by rw [← hAe]; exact Or.inr h
  have hS : va_S A s.heap s.heap [] := va_S.rf
  have hP : va_P D vwCl [(a0, .inr (8, [.int 0, .null, .null, .null, .null, .int 0, .int 0, .int 0, .int 0]))] s.heap := hP
  have hl := lv_entry ([.ref a0]) (n := 1) (Nat.le_of_ble_eq_true rfl)
  rw [lg_entry_eq]
  generalize (lg_sl ([.ref a0]) ++ List.replicate (1 - (lg_sl ([.ref a0])).length) Slot.unset).toArray = ls at hl ⊢
  have hl : lv_has ls 1 [(0, .ref a0)] := hl
  have hAB := gX_AB hE hAe
  have hEn := hE.1.2.1.1.narrow hAB
  refine lv_aload_n hx hb dX10_init_0 rfl (lv_at hl 0 rfl) ?_
  refine W.objInit hx hb hown (hts (.methodLink RX10 3 objectInit) (by decide +kernel)) (hts (.instanceMethod objectInit) (by decide +kernel)) (hts (.code objectInit ⟨#[0xb1]⟩ 1 none) (by decide +kernel)) rfl (by rw [hml]; exact hl.1) rfl dX10_init_1 (Nat.le_of_ble_eq_true rfl) (Nat.le_of_ble_eq_true rfl) ?_
  refine W.eq (g2 := F0 m 4 ls []) rfl ?_
  refine lv_aload_n hx hb dX10_init_4 rfl (lv_at hl 0 rfl) ?_
  refine lv_bipush (v := 6) hx hb dX10_init_5 (by decide) ?_
  refine va_newa (atype := .long) (a0 := (6, .inr (.inl (fun _ => 0)))) (ty := .long) hx hb (hts (.arrayClass .long) (by decide +kernel)) rfl hK hP hD hS hA (fun _ => rfl) (by decide) rfl (by decide) (Nat.le_of_ble_eq_true rfl) (Nat.le_of_ble_eq_true rfl) dX10_init_7 (fun q1 cA2 H hK9 hP hD hS => ?_)
  obtain rfl := g_cls (cA := k 1) (cB := cA2) (ty := .long) 1 7 hK9 rfl rfl rfl
  have hP : va_P D vwCl [(a0, .inr (8, [.int 0, .null, .null, .null, .null, .int 0, .int 0, .int 0, .int 0])), (q1, .inl (k 1, 6, .inr (.inl (fun _ => 0))))] H := hP
  have hD : va_D A [(a0, .inr (8, [.int 0, .null, .null, .null, .null, .int 0, .int 0, .int 0, .int 0])), (q1, .inl (k 1, 6, .inr (.inl (fun _ => 0))))] := hD
  refine W.widen (k := 1) (n := 6) (Nat.le_of_ble_eq_true rfl) (Nat.le_of_ble_eq_true rfl) ?_
  refine va_putF (D := D) (ci := 8) (v := .ref q1) (ty := .array .long) (C := RX10) (T := TX10) (N := 9) hx hb hts inX10_init_X10 tyX10 tyX10_ok nmX10 hown hK hP hD hS 0 rfl rfl 1 (by decide) (hts (.fieldLink RX10 9 "RungMoney$Town" "names" "[J") (by decide +kernel)) (fun _ h9 => h9) rfl hin rfl (by decide +kernel) rfl rfl (Nat.le_of_ble_eq_true rfl) dX10_init_9 (fun H locs hP hD hS => ?_)
  have hP : va_P D vwCl [(a0, .inr (8, [.int 0, .ref q1, .null, .null, .null, .int 0, .int 0, .int 0, .int 0])), (q1, .inl (k 1, 6, .inr (.inl (fun _ => 0))))] H := hP
  have hD : va_D A [(a0, .inr (8, [.int 0, .ref q1, .null, .null, .null, .int 0, .int 0, .int 0, .int 0])), (q1, .inl (k 1, 6, .inr (.inl (fun _ => 0))))] := hD
  refine lv_aload_n hx hb dX10_init_12 rfl (lv_at hl 0 rfl) ?_
  refine va_new (ci := 1) (fs := [.int 0, .null, .null, .null, .null, .null]) (C := RX3) (T := TX3) (N := 6) hx hb hts inX10_init_X3 tyX3 tyX3_ok hown (hts (.classLink RX10 15 RX3) (by decide +kernel)) (hts (.instantiable RX3 6) (by decide +kernel)) (hts (.initialized RX3) (by decide +kernel)) hK hP hD hS hA rfl (by decide +kernel) (Nat.le_of_ble_eq_true rfl) (Nat.le_of_ble_eq_true rfl) dX10_init_13 (fun q3 H hP hD hS => ?_)
  have hP : va_P D vwCl [(a0, .inr (8, [.int 0, .ref q1, .null, .null, .null, .int 0, .int 0, .int 0, .int 0])), (q1, .inl (k 1, 6, .inr (.inl (fun _ => 0)))), (q3, .inr (1, [.int 0, .null, .null, .null, .null, .null]))] H := hP
  have hD : va_D A [(a0, .inr (8, [.int 0, .ref q1, .null, .null, .null, .int 0, .int 0, .int 0, .int 0])), (q1, .inl (k 1, 6, .inr (.inl (fun _ => 0)))), (q3, .inr (1, [.int 0, .null, .null, .null, .null, .null]))] := hD
  refine W.widen (k := 2) (n := 12) (Nat.le_of_ble_eq_true rfl) (Nat.le_of_ble_eq_true rfl) ?_
  refine lv_dup hx hb dX10_init_16 rfl ?_
  refine g_vIN (As := []) (rest := [.ref q3, .ref a0]) (wr := [(a0, .inr (8, [.int 0, .ref q1, .null, .null, .null, .int 0, .int 0, .int 0, .int 0])), (q1, .inl (k 1, 6, .inr (.inl (fun _ => 0))))]) ⟨hx, hb, hml, hown, hts⟩ (cL_init l D k q3) ⟨va_cnB 0 hts ggX10_init_X3_init rfl rfl rfl hE.1.2.2.2.2.2.1 (hts (.initialized RX3) (by decide +kernel)) (by decide +kernel) ⟨Nat.le_of_ble_eq_true rfl, Nat.le_of_ble_eq_true rfl⟩, rfl, hts (.instanceMethod yX3_init) (by decide +kernel)⟩ g_E0_ok (fun _ _ _ => trivial) hK hP hD hS hA [2] [0, 1] rfl rfl (by decide) rfl hl.1 rfl (Nat.le_of_ble_eq_true rfl) dX10_init_17 ⟨Nat.le_of_ble_eq_true rfl, Nat.le_of_ble_eq_true rfl⟩ (fun u4 H locs hP hD hS => ?_)
  have hP : va_P D vwCl [(a0, .inr (8, [.int 0, .ref q1, .null, .null, .null, .int 0, .int 0, .int 0, .int 0])), (q1, .inl (k 1, 6, .inr (.inl (fun _ => 0)))), (q3, .inr (1, [.int 0, .ref (u4 0), .ref (u4 1), .ref (u4 2), .ref (u4 3), .ref (u4 4)])), ((u4 0), .inl (k 0, 16, .inl (fun _ => 0))), ((u4 1), .inl (k 0, 16, .inl (fun _ => 0))), ((u4 2), .inl (k 0, 16, .inl (fun _ => 0))), ((u4 3), .inl (k 0, 16, .inl (fun _ => 0))), ((u4 4), .inl (k 0, 16, .inl (fun _ => 0)))] H := hP
  have hD : va_D A [(a0, .inr (8, [.int 0, .ref q1, .null, .null, .null, .int 0, .int 0, .int 0, .int 0])), (q1, .inl (k 1, 6, .inr (.inl (fun _ => 0)))), (q3, .inr (1, [.int 0, .ref (u4 0), .ref (u4 1), .ref (u4 2), .ref (u4 3), .ref (u4 4)])), ((u4 0), .inl (k 0, 16, .inl (fun _ => 0))), ((u4 1), .inl (k 0, 16, .inl (fun _ => 0))), ((u4 2), .inl (k 0, 16, .inl (fun _ => 0))), ((u4 3), .inl (k 0, 16, .inl (fun _ => 0))), ((u4 4), .inl (k 0, 16, .inl (fun _ => 0)))] := hD
  refine W.widen (k := 7) (n := 92) (Nat.le_of_ble_eq_true rfl) (Nat.le_of_ble_eq_true rfl) ?_
  refine va_putF (D := D) (ci := 8) (v := .ref q3) (ty := .object "RungMoney$Ladders") (C := RX10) (T := TX10) (N := 9) hx hb hts inX10_init_X10 tyX10 tyX10_ok nmX10 hown hK hP hD hS 0 rfl rfl 2 (by decide) (hts (.fieldLink RX10 18 "RungMoney$Town" "ladders" "LRungMoney$Ladders;") (by decide +kernel)) (fun _ h9 => h9) rfl hin rfl (by decide +kernel) rfl rfl (Nat.le_of_ble_eq_true rfl) dX10_init_20 (fun H locs hP hD hS => ?_)
  have hP : va_P D vwCl [(a0, .inr (8, [.int 0, .ref q1, .ref q3, .null, .null, .int 0, .int 0, .int 0, .int 0])), (q1, .inl (k 1, 6, .inr (.inl (fun _ => 0)))), (q3, .inr (1, [.int 0, .ref (u4 0), .ref (u4 1), .ref (u4 2), .ref (u4 3), .ref (u4 4)])), ((u4 0), .inl (k 0, 16, .inl (fun _ => 0))), ((u4 1), .inl (k 0, 16, .inl (fun _ => 0))), ((u4 2), .inl (k 0, 16, .inl (fun _ => 0))), ((u4 3), .inl (k 0, 16, .inl (fun _ => 0))), ((u4 4), .inl (k 0, 16, .inl (fun _ => 0)))] H := hP
  have hD : va_D A [(a0, .inr (8, [.int 0, .ref q1, .ref q3, .null, .null, .int 0, .int 0, .int 0, .int 0])), (q1, .inl (k 1, 6, .inr (.inl (fun _ => 0)))), (q3, .inr (1, [.int 0, .ref (u4 0), .ref (u4 1), .ref (u4 2), .ref (u4 3), .ref (u4 4)])), ((u4 0), .inl (k 0, 16, .inl (fun _ => 0))), ((u4 1), .inl (k 0, 16, .inl (fun _ => 0))), ((u4 2), .inl (k 0, 16, .inl (fun _ => 0))), ((u4 3), .inl (k 0, 16, .inl (fun _ => 0))), ((u4 4), .inl (k 0, 16, .inl (fun _ => 0)))] := hD
  refine lv_aload_n hx hb dX10_init_23 rfl (lv_at hl 0 rfl) ?_
  refine va_new (ci := 0) (fs := [.null, .null]) (C := RX1) (T := TX1) (N := 2) hx hb hts inX10_init_X1 tyX1 tyX1_ok hown (hts (.classLink RX10 22 RX1) (by decide +kernel)) (hts (.instantiable RX1 2) (by decide +kernel)) (hts (.initialized RX1) (by decide +kernel)) hK hP hD hS hA rfl (by decide +kernel) (Nat.le_of_ble_eq_true rfl) (Nat.le_of_ble_eq_true rfl) dX10_init_24 (fun q5 H hP hD hS => ?_)
  have hP : va_P D vwCl [(a0, .inr (8, [.int 0, .ref q1, .ref q3, .null, .null, .int 0, .int 0, .int 0, .int 0])), (q1, .inl (k 1, 6, .inr (.inl (fun _ => 0)))), (q3, .inr (1, [.int 0, .ref (u4 0), .ref (u4 1), .ref (u4 2), .ref (u4 3), .ref (u4 4)])), ((u4 0), .inl (k 0, 16, .inl (fun _ => 0))), ((u4 1), .inl (k 0, 16, .inl (fun _ => 0))), ((u4 2), .inl (k 0, 16, .inl (fun _ => 0))), ((u4 3), .inl (k 0, 16, .inl (fun _ => 0))), ((u4 4), .inl (k 0, 16, .inl (fun _ => 0))), (q5, .inr (0, [.null, .null]))] H := hP
  have hD : va_D A [(a0, .inr (8, [.int 0, .ref q1, .ref q3, .null, .null, .int 0, .int 0, .int 0, .int 0])), (q1, .inl (k 1, 6, .inr (.inl (fun _ => 0)))), (q3, .inr (1, [.int 0, .ref (u4 0), .ref (u4 1), .ref (u4 2), .ref (u4 3), .ref (u4 4)])), ((u4 0), .inl (k 0, 16, .inl (fun _ => 0))), ((u4 1), .inl (k 0, 16, .inl (fun _ => 0))), ((u4 2), .inl (k 0, 16, .inl (fun _ => 0))), ((u4 3), .inl (k 0, 16, .inl (fun _ => 0))), ((u4 4), .inl (k 0, 16, .inl (fun _ => 0))), (q5, .inr (0, [.null, .null]))] := hD
  refine W.widen (k := 8) (n := 94) (Nat.le_of_ble_eq_true rfl) (Nat.le_of_ble_eq_true rfl) ?_
  refine lv_dup hx hb dX10_init_27 rfl ?_
  refine g_vIN (As := []) (rest := [.ref q5, .ref a0]) (wr := [(a0, .inr (8, [.int 0, .ref q1, .ref q3, .null, .null, .int 0, .int 0, .int 0, .int 0])), (q1, .inl (k 1, 6, .inr (.inl (fun _ => 0)))), (q3, .inr (1, [.int 0, .ref (u4 0), .ref (u4 1), .ref (u4 2), .ref (u4 3), .ref (u4 4)])), ((u4 0), .inl (k 0, 16, .inl (fun _ => 0))), ((u4 1), .inl (k 0, 16, .inl (fun _ => 0))), ((u4 2), .inl (k 0, 16, .inl (fun _ => 0))), ((u4 3), .inl (k 0, 16, .inl (fun _ => 0))), ((u4 4), .inl (k 0, 16, .inl (fun _ => 0)))]) ⟨hx, hb, hml, hown, hts⟩ (cD_init l D k q5) ⟨va_cnB 0 hts ggX10_init_X1_init rfl rfl rfl hE.1.2.2.2.2.2.2.1 (hts (.initialized RX1) (by decide +kernel)) (by decide +kernel) ⟨Nat.le_of_ble_eq_true rfl, Nat.le_of_ble_eq_true rfl⟩, rfl, hts (.instanceMethod yX1_init) (by decide +kernel)⟩ g_E0_ok (fun _ _ _ => trivial) hK hP hD hS hA [8] [0, 1, 2, 3, 4, 5, 6, 7] rfl rfl (by decide) rfl hl.1 rfl (Nat.le_of_ble_eq_true rfl) dX10_init_28 ⟨Nat.le_of_ble_eq_true rfl, Nat.le_of_ble_eq_true rfl⟩ (fun u6 H locs hP hD hS => ?_)
  have hP : va_P D vwCl [(a0, .inr (8, [.int 0, .ref q1, .ref q3, .null, .null, .int 0, .int 0, .int 0, .int 0])), (q1, .inl (k 1, 6, .inr (.inl (fun _ => 0)))), (q3, .inr (1, [.int 0, .ref (u4 0), .ref (u4 1), .ref (u4 2), .ref (u4 3), .ref (u4 4)])), ((u4 0), .inl (k 0, 16, .inl (fun _ => 0))), ((u4 1), .inl (k 0, 16, .inl (fun _ => 0))), ((u4 2), .inl (k 0, 16, .inl (fun _ => 0))), ((u4 3), .inl (k 0, 16, .inl (fun _ => 0))), ((u4 4), .inl (k 0, 16, .inl (fun _ => 0))), (q5, .inr (0, [.ref (u6 0), .ref (u6 1)])), ((u6 0), .inl (k 0, 36, .inl (fun _ => 0))), ((u6 1), .inl (k 0, 6, .inl (fun _ => 0)))] H := hP
  have hD : va_D A [(a0, .inr (8, [.int 0, .ref q1, .ref q3, .null, .null, .int 0, .int 0, .int 0, .int 0])), (q1, .inl (k 1, 6, .inr (.inl (fun _ => 0)))), (q3, .inr (1, [.int 0, .ref (u4 0), .ref (u4 1), .ref (u4 2), .ref (u4 3), .ref (u4 4)])), ((u4 0), .inl (k 0, 16, .inl (fun _ => 0))), ((u4 1), .inl (k 0, 16, .inl (fun _ => 0))), ((u4 2), .inl (k 0, 16, .inl (fun _ => 0))), ((u4 3), .inl (k 0, 16, .inl (fun _ => 0))), ((u4 4), .inl (k 0, 16, .inl (fun _ => 0))), (q5, .inr (0, [.ref (u6 0), .ref (u6 1)])), ((u6 0), .inl (k 0, 36, .inl (fun _ => 0))), ((u6 1), .inl (k 0, 6, .inl (fun _ => 0)))] := hD
  refine W.widen (k := 10) (n := 136) (Nat.le_of_ble_eq_true rfl) (Nat.le_of_ble_eq_true rfl) ?_
  refine va_putF (D := D) (ci := 8) (v := .ref q5) (ty := .object "RungMoney$Debts") (C := RX10) (T := TX10) (N := 9) hx hb hts inX10_init_X10 tyX10 tyX10_ok nmX10 hown hK hP hD hS 0 rfl rfl 3 (by decide) (hts (.fieldLink RX10 25 "RungMoney$Town" "debts" "LRungMoney$Debts;") (by decide +kernel)) (fun _ h9 => h9) rfl hin rfl (by decide +kernel) rfl rfl (Nat.le_of_ble_eq_true rfl) dX10_init_31 (fun H locs hP hD hS => ?_)
  have hP : va_P D vwCl [(a0, .inr (8, [.int 0, .ref q1, .ref q3, .ref q5, .null, .int 0, .int 0, .int 0, .int 0])), (q1, .inl (k 1, 6, .inr (.inl (fun _ => 0)))), (q3, .inr (1, [.int 0, .ref (u4 0), .ref (u4 1), .ref (u4 2), .ref (u4 3), .ref (u4 4)])), ((u4 0), .inl (k 0, 16, .inl (fun _ => 0))), ((u4 1), .inl (k 0, 16, .inl (fun _ => 0))), ((u4 2), .inl (k 0, 16, .inl (fun _ => 0))), ((u4 3), .inl (k 0, 16, .inl (fun _ => 0))), ((u4 4), .inl (k 0, 16, .inl (fun _ => 0))), (q5, .inr (0, [.ref (u6 0), .ref (u6 1)])), ((u6 0), .inl (k 0, 36, .inl (fun _ => 0))), ((u6 1), .inl (k 0, 6, .inl (fun _ => 0)))] H := hP
  have hD : va_D A [(a0, .inr (8, [.int 0, .ref q1, .ref q3, .ref q5, .null, .int 0, .int 0, .int 0, .int 0])), (q1, .inl (k 1, 6, .inr (.inl (fun _ => 0)))), (q3, .inr (1, [.int 0, .ref (u4 0), .ref (u4 1), .ref (u4 2), .ref (u4 3), .ref (u4 4)])), ((u4 0), .inl (k 0, 16, .inl (fun _ => 0))), ((u4 1), .inl (k 0, 16, .inl (fun _ => 0))), ((u4 2), .inl (k 0, 16, .inl (fun _ => 0))), ((u4 3), .inl (k 0, 16, .inl (fun _ => 0))), ((u4 4), .inl (k 0, 16, .inl (fun _ => 0))), (q5, .inr (0, [.ref (u6 0), .ref (u6 1)])), ((u6 0), .inl (k 0, 36, .inl (fun _ => 0))), ((u6 1), .inl (k 0, 6, .inl (fun _ => 0)))] := hD
  refine lv_aload_n hx hb dX10_init_34 rfl (lv_at hl 0 rfl) ?_
  refine lv_bipush (v := 6) hx hb dX10_init_35 (by decide) ?_
  refine va_newa (atype := .int) (a0 := (6, .inl (fun _ => 0))) (ty := .int) hx hb (hts (.arrayClass .int) (by decide +kernel)) rfl hK hP hD hS hA (fun _ => rfl) (by decide) rfl (by decide) (Nat.le_of_ble_eq_true rfl) (Nat.le_of_ble_eq_true rfl) dX10_init_37 (fun q7 cA8 H hK9 hP hD hS => ?_)
  obtain rfl := g_cls (cA := k 0) (cB := cA8) (ty := .int) 0 7 hK9 rfl rfl rfl
  have hP : va_P D vwCl [(a0, .inr (8, [.int 0, .ref q1, .ref q3, .ref q5, .null, .int 0, .int 0, .int 0, .int 0])), (q1, .inl (k 1, 6, .inr (.inl (fun _ => 0)))), (q3, .inr (1, [.int 0, .ref (u4 0), .ref (u4 1), .ref (u4 2), .ref (u4 3), .ref (u4 4)])), ((u4 0), .inl (k 0, 16, .inl (fun _ => 0))), ((u4 1), .inl (k 0, 16, .inl (fun _ => 0))), ((u4 2), .inl (k 0, 16, .inl (fun _ => 0))), ((u4 3), .inl (k 0, 16, .inl (fun _ => 0))), ((u4 4), .inl (k 0, 16, .inl (fun _ => 0))), (q5, .inr (0, [.ref (u6 0), .ref (u6 1)])), ((u6 0), .inl (k 0, 36, .inl (fun _ => 0))), ((u6 1), .inl (k 0, 6, .inl (fun _ => 0))), (q7, .inl (k 0, 6, .inl (fun _ => 0)))] H := hP
  have hD : va_D A [(a0, .inr (8, [.int 0, .ref q1, .ref q3, .ref q5, .null, .int 0, .int 0, .int 0, .int 0])), (q1, .inl (k 1, 6, .inr (.inl (fun _ => 0)))), (q3, .inr (1, [.int 0, .ref (u4 0), .ref (u4 1), .ref (u4 2), .ref (u4 3), .ref (u4 4)])), ((u4 0), .inl (k 0, 16, .inl (fun _ => 0))), ((u4 1), .inl (k 0, 16, .inl (fun _ => 0))), ((u4 2), .inl (k 0, 16, .inl (fun _ => 0))), ((u4 3), .inl (k 0, 16, .inl (fun _ => 0))), ((u4 4), .inl (k 0, 16, .inl (fun _ => 0))), (q5, .inr (0, [.ref (u6 0), .ref (u6 1)])), ((u6 0), .inl (k 0, 36, .inl (fun _ => 0))), ((u6 1), .inl (k 0, 6, .inl (fun _ => 0))), (q7, .inl (k 0, 6, .inl (fun _ => 0)))] := hD
  refine W.widen (k := 11) (n := 142) (Nat.le_of_ble_eq_true rfl) (Nat.le_of_ble_eq_true rfl) ?_
  refine va_putF (D := D) (ci := 8) (v := .ref q7) (ty := .array .int) (C := RX10) (T := TX10) (N := 9) hx hb hts inX10_init_X10 tyX10 tyX10_ok nmX10 hown hK hP hD hS 0 rfl rfl 4 (by decide) (hts (.fieldLink RX10 29 "RungMoney$Town" "payments" "[I") (by decide +kernel)) (fun _ h9 => h9) rfl hin rfl (by decide +kernel) rfl rfl (Nat.le_of_ble_eq_true rfl) dX10_init_39 (fun H locs hP hD hS => ?_)
  have hP : va_P D vwCl [(a0, .inr (8, [.int 0, .ref q1, .ref q3, .ref q5, .ref q7, .int 0, .int 0, .int 0, .int 0])), (q1, .inl (k 1, 6, .inr (.inl (fun _ => 0)))), (q3, .inr (1, [.int 0, .ref (u4 0), .ref (u4 1), .ref (u4 2), .ref (u4 3), .ref (u4 4)])), ((u4 0), .inl (k 0, 16, .inl (fun _ => 0))), ((u4 1), .inl (k 0, 16, .inl (fun _ => 0))), ((u4 2), .inl (k 0, 16, .inl (fun _ => 0))), ((u4 3), .inl (k 0, 16, .inl (fun _ => 0))), ((u4 4), .inl (k 0, 16, .inl (fun _ => 0))), (q5, .inr (0, [.ref (u6 0), .ref (u6 1)])), ((u6 0), .inl (k 0, 36, .inl (fun _ => 0))), ((u6 1), .inl (k 0, 6, .inl (fun _ => 0))), (q7, .inl (k 0, 6, .inl (fun _ => 0)))] H := hP
  have hD : va_D A [(a0, .inr (8, [.int 0, .ref q1, .ref q3, .ref q5, .ref q7, .int 0, .int 0, .int 0, .int 0])), (q1, .inl (k 1, 6, .inr (.inl (fun _ => 0)))), (q3, .inr (1, [.int 0, .ref (u4 0), .ref (u4 1), .ref (u4 2), .ref (u4 3), .ref (u4 4)])), ((u4 0), .inl (k 0, 16, .inl (fun _ => 0))), ((u4 1), .inl (k 0, 16, .inl (fun _ => 0))), ((u4 2), .inl (k 0, 16, .inl (fun _ => 0))), ((u4 3), .inl (k 0, 16, .inl (fun _ => 0))), ((u4 4), .inl (k 0, 16, .inl (fun _ => 0))), (q5, .inr (0, [.ref (u6 0), .ref (u6 1)])), ((u6 0), .inl (k 0, 36, .inl (fun _ => 0))), ((u6 1), .inl (k 0, 6, .inl (fun _ => 0))), (q7, .inl (k 0, 6, .inl (fun _ => 0)))] := hD
  refine lv_aload_n hx hb dX10_init_42 rfl (lv_at hl 0 rfl) ?_
  refine lv_iconst (v := 1) hx hb dX10_init_43 (by decide) ?_
  refine va_put (D := D) (ci := 8) (v := .int 1) (ty := .int) (C := RX10) (T := TX10) (N := 9) hx hb hts inX10_init_X10 tyX10 tyX10_ok nmX10 hown hK hP hD hS 0 rfl rfl 5 (by decide) (hts (.fieldLink RX10 33 "RungMoney$Town" "rot" "I") (by decide +kernel)) (fun _ h9 => h9) rfl (by decide +kernel) rfl rfl (Nat.le_of_ble_eq_true rfl) dX10_init_44 (fun H locs hP hD hS => ?_)
  have hP : va_P D vwCl [(a0, .inr (8, [.int 0, .ref q1, .ref q3, .ref q5, .ref q7, .int 1, .int 0, .int 0, .int 0])), (q1, .inl (k 1, 6, .inr (.inl (fun _ => 0)))), (q3, .inr (1, [.int 0, .ref (u4 0), .ref (u4 1), .ref (u4 2), .ref (u4 3), .ref (u4 4)])), ((u4 0), .inl (k 0, 16, .inl (fun _ => 0))), ((u4 1), .inl (k 0, 16, .inl (fun _ => 0))), ((u4 2), .inl (k 0, 16, .inl (fun _ => 0))), ((u4 3), .inl (k 0, 16, .inl (fun _ => 0))), ((u4 4), .inl (k 0, 16, .inl (fun _ => 0))), (q5, .inr (0, [.ref (u6 0), .ref (u6 1)])), ((u6 0), .inl (k 0, 36, .inl (fun _ => 0))), ((u6 1), .inl (k 0, 6, .inl (fun _ => 0))), (q7, .inl (k 0, 6, .inl (fun _ => 0)))] H := hP
  have hD : va_D A [(a0, .inr (8, [.int 0, .ref q1, .ref q3, .ref q5, .ref q7, .int 1, .int 0, .int 0, .int 0])), (q1, .inl (k 1, 6, .inr (.inl (fun _ => 0)))), (q3, .inr (1, [.int 0, .ref (u4 0), .ref (u4 1), .ref (u4 2), .ref (u4 3), .ref (u4 4)])), ((u4 0), .inl (k 0, 16, .inl (fun _ => 0))), ((u4 1), .inl (k 0, 16, .inl (fun _ => 0))), ((u4 2), .inl (k 0, 16, .inl (fun _ => 0))), ((u4 3), .inl (k 0, 16, .inl (fun _ => 0))), ((u4 4), .inl (k 0, 16, .inl (fun _ => 0))), (q5, .inr (0, [.ref (u6 0), .ref (u6 1)])), ((u6 0), .inl (k 0, 36, .inl (fun _ => 0))), ((u6 1), .inl (k 0, 6, .inl (fun _ => 0))), (q7, .inl (k 0, 6, .inl (fun _ => 0)))] := hD
  have hP := hP.sub (ws' := [(a0, .inr (8, [.int 0, .ref q1, .ref q3, .ref q5, .ref q7, .int 1, .int 0, .int 0, .int 0])), (q1, .inl (k 1, 6, .inr (.inl (fun _ => 0)))), (q3, .inr (1, [.int 0, .ref (u4 0), .ref (u4 1), .ref (u4 2), .ref (u4 3), .ref (u4 4)])), ((u4 0), .inl (k 0, 16, .inl (fun _ => 0))), ((u4 1), .inl (k 0, 16, .inl (fun _ => 0))), ((u4 2), .inl (k 0, 16, .inl (fun _ => 0))), ((u4 3), .inl (k 0, 16, .inl (fun _ => 0))), ((u4 4), .inl (k 0, 16, .inl (fun _ => 0))), (q5, .inr (0, [.ref (u6 0), .ref (u6 1)])), ((u6 0), .inl (k 0, 36, .inl (fun _ => 0))), ((u6 1), .inl (k 0, 6, .inl (fun _ => 0))), (q7, .inl (k 0, 6, .inl (fun _ => 0)))]) [0, 1, 2, 3, 4, 5, 6, 7, 8, 9, 10, 11] rfl
  have hD := hD.sub (ws' := [(a0, .inr (8, [.int 0, .ref q1, .ref q3, .ref q5, .ref q7, .int 1, .int 0, .int 0, .int 0])), (q1, .inl (k 1, 6, .inr (.inl (fun _ => 0)))), (q3, .inr (1, [.int 0, .ref (u4 0), .ref (u4 1), .ref (u4 2), .ref (u4 3), .ref (u4 4)])), ((u4 0), .inl (k 0, 16, .inl (fun _ => 0))), ((u4 1), .inl (k 0, 16, .inl (fun _ => 0))), ((u4 2), .inl (k 0, 16, .inl (fun _ => 0))), ((u4 3), .inl (k 0, 16, .inl (fun _ => 0))), ((u4 4), .inl (k 0, 16, .inl (fun _ => 0))), (q5, .inr (0, [.ref (u6 0), .ref (u6 1)])), ((u6 0), .inl (k 0, 36, .inl (fun _ => 0))), ((u6 1), .inl (k 0, 6, .inl (fun _ => 0))), (q7, .inl (k 0, 6, .inl (fun _ => 0)))]) [0, 1, 2, 3, 4, 5, 6, 7, 8, 9, 10, 11] (by decide) rfl
  exact g_vret hx hb hr hlocks hK (g_lg [q1, q3, (u4 0), (u4 1), (u4 2), (u4 3), (u4 4), q5, (u6 0), (u6 1), q7]) hP hD hS dX10_init_47 ⟨Nat.le_of_ble_eq_true rfl, Nat.le_of_ble_eq_true rfl⟩
set_option maxHeartbeats 4000000 in
set_option maxRecDepth 100000 in
theorem cE_init (l : Launch) (D : va_G) (k : Nat → ClassId) (e0 : Nat) : g_Cv l yX9_init wsX9_init ({ frames := 1, cells := 1, slots := 940, locals := 12 }) D k g_E0 [.ref e0] [(e0, .inr (7, [.null, .int 0]))] (fun u => [(e0, .inr (7, [.ref (u 0), .int 0])), ((u 0), .inl (k 0, 940, .inl (fun _ => 0)))]) 1 940 := by
  intro sz
  refine Met.ofW (cc := cX9_init) (maxL := 1) (ret := none) (by decide) rfl ?_
  intro p e s m args below meth c s₁ B hml hv
  obtain ⟨rfl, hsz, hP, hK, hD0, hE⟩ := hv
  have hx := B.exec
  have hb := B.bytes
  have hr := B.returns
  have hts := atoms_spec (ws := wsX9_init) B.pre
  have hown : s.vm.findClass RX9 = some m.cls := findClass_of_methodNamed B.named
  have hlocks := B.notSynchronized
  have hin : meth.name = "<init>" := (name_of_methodNamed B.named B.method).1
  subst hsz
  have hD := hD0.self (sz := s.heap.size)
  generalize hAe : va_A [(e0, .inr (7, [.null, .int 0]))] s.heap.size = A at hD ⊢
  have hA : ∀ q : Nat, s.heap.size ≤ q → A q := fun q h => by rw [← hAe]; exact Or.inr h
  have hS : va_S A s.heap s.heap [] := va_S.rf
  have hP : va_P D vwCl [(e0, .inr (7, [.null, .int 0]))] s.heap := hP
  have hl := lv_entry ([.ref e0]) (n := 1) (Nat.le_of_ble_eq_true rfl)
  rw [lg_entry_eq]
  generalize (lg_sl ([.ref e0]) ++ List.replicate (1 - (lg_sl ([.ref e0])).length) Slot.unset).toArray = ls at hl ⊢
  have hl : lv_has ls 1 [(0, .ref e0)] := hl
  refine lv_aload_n hx hb dX9_init_0 rfl (lv_at hl 0 rfl) ?_
  refine W.objInit hx hb hown (hts (.methodLink RX9 1 objectInit) (by decide +kernel)) (hts (.instanceMethod objectInit) (by decide +kernel)) (hts (.code objectInit ⟨#[0xb1]⟩ 1 none) (by decide +kernel)) rfl (by rw [hml]; exact hl.1) rfl dX9_init_1 (Nat.le_of_ble_eq_true rfl) (Nat.le_of_ble_eq_true rfl) ?_
  refine W.eq (g2 := F0 m 4 ls []) rfl ?_
  refine lv_aload_n hx hb dX9_init_4 rfl (lv_at hl 0 rfl) ?_
  refine lv_sipush (v := 940) hx hb dX9_init_5 (by decide) ?_
  refine va_newa (atype := .int) (a0 := (940, .inl (fun _ => 0))) (ty := .int) hx hb (hts (.arrayClass .int) (by decide +kernel)) rfl hK hP hD hS hA (fun _ => rfl) (by decide) rfl (by decide) (Nat.le_of_ble_eq_true rfl) (Nat.le_of_ble_eq_true rfl) dX9_init_8 (fun q1 cA2 H hK9 hP hD hS => ?_)
  obtain rfl := g_cls (cA := k 0) (cB := cA2) (ty := .int) 0 7 hK9 rfl rfl rfl
  have hP : va_P D vwCl [(e0, .inr (7, [.null, .int 0])), (q1, .inl (k 0, 940, .inl (fun _ => 0)))] H := hP
  have hD : va_D A [(e0, .inr (7, [.null, .int 0])), (q1, .inl (k 0, 940, .inl (fun _ => 0)))] := hD
  refine W.widen (k := 1) (n := 940) (Nat.le_of_ble_eq_true rfl) (Nat.le_of_ble_eq_true rfl) ?_
  refine va_putF (D := D) (ci := 7) (v := .ref q1) (ty := .array .int) (C := RX9) (T := TX9) (N := 2) hx hb hts inX9_init_X9 tyX9 tyX9_ok nmX9 hown hK hP hD hS 0 rfl rfl 0 (by decide) (hts (.fieldLink RX9 9 "RungMoney$Tape" "bytes" "[I") (by decide +kernel)) (fun _ h9 => h9) rfl hin rfl (by decide +kernel) rfl rfl (Nat.le_of_ble_eq_true rfl) dX9_init_10 (fun H locs hP hD hS => ?_)
  have hP : va_P D vwCl [(e0, .inr (7, [.ref q1, .int 0])), (q1, .inl (k 0, 940, .inl (fun _ => 0)))] H := hP
  have hD : va_D A [(e0, .inr (7, [.ref q1, .int 0])), (q1, .inl (k 0, 940, .inl (fun _ => 0)))] := hD
  have hP := hP.sub (ws' := [(e0, .inr (7, [.ref q1, .int 0])), (q1, .inl (k 0, 940, .inl (fun _ => 0)))]) [0, 1] rfl
  have hD := hD.sub (ws' := [(e0, .inr (7, [.ref q1, .int 0])), (q1, .inl (k 0, 940, .inl (fun _ => 0)))]) [0, 1] (by decide) rfl
  exact g_vret hx hb hr hlocks hK (g_lg [q1]) hP hD hS dX9_init_13 ⟨Nat.le_of_ble_eq_true rfl, Nat.le_of_ble_eq_true rfl⟩
set_option maxHeartbeats 4000000 in
set_option maxRecDepth 100000 in
theorem cR_init (l : Launch) (D : va_G) (k : Nat → ClassId) (d0 : Nat) (e0 : Nat) : g_Cv l yX7_init wsX7_init ({ frames := 1, cells := 0, slots := 0, locals := 12 }) D k g_E0 [.ref d0, .ref e0] [(d0, .inr (5, [.null, .int 0, .int 0, .int 0, .int 0, .long 0, .int 0, .int 0, .int 0, .int 0, .int 0]))] (fun u => [(d0, .inr (5, [.ref e0, .int 0, .int 0, .int 0, .int 0, .long 0, .int 0, .int 0, .int 0, .int 0, .int 0]))]) 0 0 := by
  intro sz
  refine Met.ofW (cc := cX7_init) (maxL := 2) (ret := none) (by decide) rfl ?_
  intro p e s m args below meth c s₁ B hml hv
  obtain ⟨rfl, hsz, hP, hK, hD0, hE⟩ := hv
  have hx := B.exec
  have hb := B.bytes
  have hr := B.returns
  have hts := atoms_spec (ws := wsX7_init) B.pre
  have hown : s.vm.findClass RX7 = some m.cls := findClass_of_methodNamed B.named
  have hlocks := B.notSynchronized
  have hin : meth.name = "<init>" := (name_of_methodNamed B.named B.method).1
  subst hsz
  have hD := hD0.self (sz := s.heap.size)
  generalize hAe : va_A [(d0, .inr (5, [.null, .int 0, .int 0, .int 0, .int 0, .long 0, .int 0, .int 0, .int 0, .int 0, .int 0]))] s.heap.size = A at hD ⊢
  have hA : ∀ q : Nat, s.heap.size ≤ q → A q := fun q h => by rw [← hAe]; exact Or.inr h
  have hS : va_S A s.heap s.heap [] := va_S.rf
  have hP : va_P D vwCl [(d0, .inr (5, [.null, .int 0, .int 0, .int 0, .int 0, .long 0, .int 0, .int 0, .int 0, .int 0, .int 0]))] s.heap := hP
  have hl := lv_entry ([.ref d0, .ref e0]) (n := 2) (Nat.le_of_ble_eq_true rfl)
  rw [lg_entry_eq]
  generalize (lg_sl ([.ref d0, .ref e0]) ++ List.replicate (2 - (lg_sl ([.ref d0, .ref e0])).length) Slot.unset).toArray = ls at hl ⊢
  have hl : lv_has ls 2 [(0, .ref d0), (1, .ref e0)] := hl
  refine lv_aload_n hx hb dX7_init_0 rfl (lv_at hl 0 rfl) ?_
  refine W.objInit hx hb hown (hts (.methodLink RX7 3 objectInit) (by decide +kernel)) (hts (.instanceMethod objectInit) (by decide +kernel)) (hts (.code objectInit ⟨#[0xb1]⟩ 1 none) (by decide +kernel)) rfl (by rw [hml]; exact hl.1) rfl dX7_init_1 (Nat.le_of_ble_eq_true rfl) (Nat.le_of_ble_eq_true rfl) ?_
  refine W.eq (g2 := F0 m 4 ls []) rfl ?_
  refine lv_aload_n hx hb dX7_init_4 rfl (lv_at hl 0 rfl) ?_
  refine lv_aload_n hx hb dX7_init_5 rfl (lv_at hl 1 rfl) ?_
  refine va_putF (D := D) (ci := 5) (v := .ref e0) (ty := .object "RungMoney$Tape") (C := RX7) (T := TX7) (N := 11) hx hb hts inX7_init_X7 tyX7 tyX7_ok nmX7 hown hK hP hD hS 0 rfl rfl 0 (by decide) (hts (.fieldLink RX7 9 "RungMoney$Reader" "tape" "LRungMoney$Tape;") (by decide +kernel)) (fun _ h9 => h9) rfl hin rfl (by decide +kernel) rfl rfl (Nat.le_of_ble_eq_true rfl) dX7_init_6 (fun H locs hP hD hS => ?_)
  have hP : va_P D vwCl [(d0, .inr (5, [.ref e0, .int 0, .int 0, .int 0, .int 0, .long 0, .int 0, .int 0, .int 0, .int 0, .int 0]))] H := hP
  have hD : va_D A [(d0, .inr (5, [.ref e0, .int 0, .int 0, .int 0, .int 0, .long 0, .int 0, .int 0, .int 0, .int 0, .int 0]))] := hD
  have hP := hP.sub (ws' := [(d0, .inr (5, [.ref e0, .int 0, .int 0, .int 0, .int 0, .long 0, .int 0, .int 0, .int 0, .int 0, .int 0]))]) [0] rfl
  have hD := hD.sub (ws' := [(d0, .inr (5, [.ref e0, .int 0, .int 0, .int 0, .int 0, .long 0, .int 0, .int 0, .int 0, .int 0, .int 0]))]) [0] (by decide) rfl
  exact g_vret hx hb hr hlocks hK (fun _ => 0) hP hD hS dX7_init_9 ⟨Nat.le_of_ble_eq_true rfl, Nat.le_of_ble_eq_true rfl⟩
set_option maxHeartbeats 4000000 in
set_option maxRecDepth 100000 in
theorem cV_init (l : Launch) (D : va_G) (k : Nat → ClassId) (v0 : Nat) (d0 : Nat) : g_Cv l yX11_init wsX11_init ({ frames := 1, cells := 0, slots := 0, locals := 12 }) D k g_E0 [.ref v0, .ref d0] [(v0, .inr (9, [.null, .int 0, .int 0, .int 0]))] (fun u => [(v0, .inr (9, [.ref d0, .int 0, .int 0, .int 0]))]) 0 0 := by
  intro sz
  refine Met.ofW (cc := cX11_init) (maxL := 2) (ret := none) (by decide) rfl ?_
  intro p e s m args below meth c s₁ B hml hv
  obtain ⟨rfl, hsz, hP, hK, hD0, hE⟩ := hv
  have hx := B.exec
  have hb := B.bytes
  have hr := B.returns
  have hts := atoms_spec (ws := wsX11_init) B.pre
  have hown : s.vm.findClass RX11 = some m.cls := findClass_of_methodNamed B.named
  have hlocks := B.notSynchronized
  have hin : meth.name = "<init>" := (name_of_methodNamed B.named B.method).1
  subst hsz
  have hD := hD0.self (sz := s.heap.size)
  generalize hAe : va_A [(v0, .inr (9, [.null, .int 0, .int 0, .int 0]))] s.heap.size = A at hD ⊢
  have hA : ∀ q : Nat, s.heap.size ≤ q → A q := fun q h => by rw [← hAe]; exact Or.inr h
  have hS : va_S A s.heap s.heap [] := va_S.rf
  have hP : va_P D vwCl [(v0, .inr (9, [.null, .int 0, .int 0, .int 0]))] s.heap := hP
  have hl := lv_entry ([.ref v0, .ref d0]) (n := 2) (Nat.le_of_ble_eq_true rfl)
  rw [lg_entry_eq]
  generalize (lg_sl ([.ref v0, .ref d0]) ++ List.replicate (2 - (lg_sl ([.ref v0, .ref d0])).length) Slot.unset).toArray = ls at hl ⊢
  have hl : lv_has ls 2 [(0, .ref v0), (1, .ref d0)] := hl
  refine lv_aload_n hx hb dX11_init_0 rfl (lv_at hl 0 rfl) ?_
  refine W.objInit hx hb hown (hts (.methodLink RX11 3 objectInit) (by decide +kernel)) (hts (.instanceMethod objectInit) (by decide +kernel)) (hts (.code objectInit ⟨#[0xb1]⟩ 1 none) (by decide +kernel)) rfl (by rw [hml]; exact hl.1) rfl dX11_init_1 (Nat.le_of_ble_eq_true rfl) (Nat.le_of_ble_eq_true rfl) ?_
  refine W.eq (g2 := F0 m 4 ls []) rfl ?_
  refine lv_aload_n hx hb dX11_init_4 rfl (lv_at hl 0 rfl) ?_
  refine lv_aload_n hx hb dX11_init_5 rfl (lv_at hl 1 rfl) ?_
  refine va_putF (D := D) (ci := 9) (v := .ref d0) (ty := .object "RungMoney$Reader") (C := RX11) (T := TX11) (N := 4) hx hb hts inX11_init_X11 tyX11 tyX11_ok nmX11 hown hK hP hD hS 0 rfl rfl 0 (by decide) (hts (.fieldLink RX11 9 "RungMoney$TownReader" "reader" "LRungMoney$Reader;") (by decide +kernel)) (fun _ h9 => h9) rfl hin rfl (by decide +kernel) rfl rfl (Nat.le_of_ble_eq_true rfl) dX11_init_6 (fun H locs hP hD hS => ?_)
  have hP : va_P D vwCl [(v0, .inr (9, [.ref d0, .int 0, .int 0, .int 0]))] H := hP
  have hD : va_D A [(v0, .inr (9, [.ref d0, .int 0, .int 0, .int 0]))] := hD
  have hP := hP.sub (ws' := [(v0, .inr (9, [.ref d0, .int 0, .int 0, .int 0]))]) [0] rfl
  have hD := hD.sub (ws' := [(v0, .inr (9, [.ref d0, .int 0, .int 0, .int 0]))]) [0] (by decide) rfl
  exact g_vret hx hb hr hlocks hK (fun _ => 0) hP hD hS dX11_init_9 ⟨Nat.le_of_ble_eq_true rfl, Nat.le_of_ble_eq_true rfl⟩
set_option maxHeartbeats 4000000 in
set_option maxRecDepth 100000 in
theorem cO_init (l : Launch) (D : va_G) (k : Nat → ClassId) (o0 : Nat) : g_Cv l yX6_init wsX6_init ({ frames := 1, cells := 1, slots := 513, locals := 12 }) D k g_E0 [.ref o0] [(o0, .inr (4, [.null]))] (fun u => [(o0, .inr (4, [.ref (u 0)])), ((u 0), .inl (k 0, 513, .inl (fun _ => 0)))]) 1 513 := by
  intro sz
  refine Met.ofW (cc := cX6_init) (maxL := 1) (ret := none) (by decide) rfl ?_
  intro p e s m args below meth c s₁ B hml hv
  obtain ⟨rfl, hsz, hP, hK, hD0, hE⟩ := hv
  have hx := B.exec
  have hb := B.bytes
  have hr := B.returns
  have hts := atoms_spec (ws := wsX6_init) B.pre
  have hown : s.vm.findClass RX6 = some m.cls := findClass_of_methodNamed B.named
  have hlocks := B.notSynchronized
  have hin : meth.name = "<init>" := (name_of_methodNamed B.named B.method).1
  subst hsz
  have hD := hD0.self (sz := s.heap.size)
  generalize hAe : va_A [(o0, .inr (4, [.null]))] s.heap.size = A at hD ⊢
  have hA : ∀ q : Nat, s.heap.size ≤ q → A q := fun q h => by rw [← hAe]; exact Or.inr h
  have hS : va_S A s.heap s.heap [] := va_S.rf
  have hP : va_P D vwCl [(o0, .inr (4, [.null]))] s.heap := hP
  have hl := lv_entry ([.ref o0]) (n := 1) (Nat.le_of_ble_eq_true rfl)
  rw [lg_entry_eq]
  generalize (lg_sl ([.ref o0]) ++ List.replicate (1 - (lg_sl ([.ref o0])).length) Slot.unset).toArray = ls at hl ⊢
  have hl : lv_has ls 1 [(0, .ref o0)] := hl
  refine lv_aload_n hx hb dX6_init_0 rfl (lv_at hl 0 rfl) ?_
  refine W.objInit hx hb hown (hts (.methodLink RX6 5 objectInit) (by decide +kernel)) (hts (.instanceMethod objectInit) (by decide +kernel)) (hts (.code objectInit ⟨#[0xb1]⟩ 1 none) (by decide +kernel)) rfl (by rw [hml]; exact hl.1) rfl dX6_init_1 (Nat.le_of_ble_eq_true rfl) (Nat.le_of_ble_eq_true rfl) ?_
  refine W.eq (g2 := F0 m 4 ls []) rfl ?_
  refine lv_aload_n hx hb dX6_init_4 rfl (lv_at hl 0 rfl) ?_
  refine lv_sipush (v := 513) hx hb dX6_init_5 (by decide) ?_
  refine va_newa (atype := .int) (a0 := (513, .inl (fun _ => 0))) (ty := .int) hx hb (hts (.arrayClass .int) (by decide +kernel)) rfl hK hP hD hS hA (fun _ => rfl) (by decide) rfl (by decide) (Nat.le_of_ble_eq_true rfl) (Nat.le_of_ble_eq_true rfl) dX6_init_8 (fun q1 cA2 H hK9 hP hD hS => ?_)
  obtain rfl := g_cls (cA := k 0) (cB := cA2) (ty := .int) 0 7 hK9 rfl rfl rfl
  have hP : va_P D vwCl [(o0, .inr (4, [.null])), (q1, .inl (k 0, 513, .inl (fun _ => 0)))] H := hP
  have hD : va_D A [(o0, .inr (4, [.null])), (q1, .inl (k 0, 513, .inl (fun _ => 0)))] := hD
  refine W.widen (k := 1) (n := 513) (Nat.le_of_ble_eq_true rfl) (Nat.le_of_ble_eq_true rfl) ?_
  refine va_putF (D := D) (ci := 4) (v := .ref q1) (ty := .array .int) (C := RX6) (T := TX6) (N := 1) hx hb hts inX6_init_X6 tyX6 tyX6_ok nmX6 hown hK hP hD hS 0 rfl rfl 0 (by decide) (hts (.fieldLink RX6 11 "RungMoney$Purse" "costs" "[I") (by decide +kernel)) (fun _ h9 => h9) rfl hin rfl (by decide +kernel) rfl rfl (Nat.le_of_ble_eq_true rfl) dX6_init_10 (fun H locs hP hD hS => ?_)
  have hP : va_P D vwCl [(o0, .inr (4, [.ref q1])), (q1, .inl (k 0, 513, .inl (fun _ => 0)))] H := hP
  have hD : va_D A [(o0, .inr (4, [.ref q1])), (q1, .inl (k 0, 513, .inl (fun _ => 0)))] := hD
  have hP := hP.sub (ws' := [(o0, .inr (4, [.ref q1])), (q1, .inl (k 0, 513, .inl (fun _ => 0)))]) [0, 1] rfl
  have hD := hD.sub (ws' := [(o0, .inr (4, [.ref q1])), (q1, .inl (k 0, 513, .inl (fun _ => 0)))]) [0, 1] (by decide) rfl
  exact g_vret hx hb hr hlocks hK (g_lg [q1]) hP hD hS dX6_init_13 ⟨Nat.le_of_ble_eq_true rfl, Nat.le_of_ble_eq_true rfl⟩
set_option maxHeartbeats 4000000 in
set_option maxRecDepth 100000 in
theorem cS_init (l : Launch) (D : va_G) (k : Nat → ClassId) (B0 : Nat) (ad : Nat → Nat) (al : Nat) (s0 : Nat) : g_Cv l yX8_init wsX8_init ({ frames := 1, cells := 4, slots := 160, locals := 12 }) D k (gX B0 ad al [(s0, .inr (6, [.null, .null, .null, .null, .int 0, .int 0]))]) [.ref s0] [(s0, .inr (6, [.null, .null, .null, .null, .int 0, .int 0]))] (fun u => [(s0, .inr (6, [.ref (u 0), .ref (u 1), .ref (u 2), .ref (u 3), .int 0, .int 0])), ((u 0), .inl (k 6, 40, .inr (.inr (.inr (.inr (rgf (kq (ad 0)) 40)))))), ((u 1), .inl (k 0, 40, .inl (fun _ => 0))), ((u 2), .inl (k 0, 40, .inl (fun _ => 0))), ((u 3), .inl (k 0, 40, .inl (fun _ => 0)))]) 4 160 := by
  intro sz
  refine Met.ofW (cc := cX8_init) (maxL := 2) (ret := none) (by decide) rfl ?_
  intro p e s m args below meth c s₁ B hml hv
  obtain ⟨rfl, hsz, hP, hK, hD0, hE⟩ := hv
  have hx := B.exec
  have hb := B.bytes
  have hr := B.returns
  have hts := atoms_spec (ws := wsX8_init) B.pre
  have hown : s.vm.findClass RX8 = some m.cls := findClass_of_methodNamed B.named
  have hlocks := B.notSynchronized
  have hin : meth.name = "<init>" := (name_of_methodNamed B.named B.method).1
  subst hsz
  have hD := hD0.self (sz := s.heap.size)
  generalize hAe : va_A [(s0, .inr (6, [.null, .null, .null, .null, .int 0, .int 0]))] s.heap.size = A at hD ⊢
  have hA : ∀ q : Nat, s.heap.size ≤ q → A q := fun q h => by rw [← hAe]; exact Or.inr h
  have hS : va_S A s.heap s.heap [] := va_S.rf
  have hP : va_P D vwCl [(s0, .inr (6, [.null, .null, .null, .null, .int 0, .int 0]))] s.heap := hP
  have hl := lv_entry ([.ref s0]) (n := 2) (Nat.le_of_ble_eq_true rfl)
  rw [lg_entry_eq]
  generalize (lg_sl ([.ref s0]) ++ List.replicate (2 - (lg_sl ([.ref s0])).length) Slot.unset).toArray = ls at hl ⊢
  have hl : lv_has ls 2 [(0, .ref s0)] := hl
  have hAB := gX_AB hE hAe
  have hEn := hE.1.2.1.1.narrow hAB
  refine lv_aload_n hx hb dX8_init_0 rfl (lv_at hl 0 rfl) ?_
  refine W.objInit hx hb hown (hts (.methodLink RX8 3 objectInit) (by decide +kernel)) (hts (.instanceMethod objectInit) (by decide +kernel)) (hts (.code objectInit ⟨#[0xb1]⟩ 1 none) (by decide +kernel)) rfl (by rw [hml]; exact hl.1) rfl dX8_init_1 (Nat.le_of_ble_eq_true rfl) (Nat.le_of_ble_eq_true rfl) ?_
  refine W.eq (g2 := F0 m 4 ls []) rfl ?_
  refine lv_aload_n hx hb dX8_init_4 rfl (lv_at hl 0 rfl) ?_
  refine lv_bipush (v := 40) hx hb dX8_init_5 (by decide) ?_
  refine va_newq (C := "RungMoney$Key") hx hb hown (hts (.classLink RX8 9 RX2) (by decide +kernel)) hE.1.2.2.1.2.2.1 hK hP hD hS hA (by decide) rfl (by decide) (Nat.le_of_ble_eq_true rfl) (Nat.le_of_ble_eq_true rfl) dX8_init_7 (fun q1 cA2 H hK9 hP hD hS => ?_)
  obtain rfl := g_clsO (cA := k 6) (cB := cA2) (C := "RungMoney$Key") 6 7 hK9 rfl rfl
  have hP : va_P D vwCl [(s0, .inr (6, [.null, .null, .null, .null, .int 0, .int 0])), (q1, .inl (k 6, 40, .inr (.inr (.inr (.inr (fun _ => none))))))] H := hP
  have hD : va_D A [(s0, .inr (6, [.null, .null, .null, .null, .int 0, .int 0])), (q1, .inl (k 6, 40, .inr (.inr (.inr (.inr (fun _ => none))))))] := hD
  refine W.widen (k := 1) (n := 40) (Nat.le_of_ble_eq_true rfl) (Nat.le_of_ble_eq_true rfl) ?_
  refine va_putF (D := D) (ci := 6) (v := .ref q1) (ty := .array (.object "RungMoney$Key")) (C := RX8) (T := TX8) (N := 6) hx hb hts inX8_init_X8 tyX8 tyX8_ok nmX8 hown hK hP hD hS 0 rfl rfl 0 (by decide) (hts (.fieldLink RX8 11 "RungMoney$Sentence" "parts" "[LRungMoney$Key;") (by decide +kernel)) (fun _ h9 => h9) rfl hin rfl (by decide +kernel) rfl rfl (Nat.le_of_ble_eq_true rfl) dX8_init_10 (fun H locs hP hD hS => ?_)
  have hP : va_P D vwCl [(s0, .inr (6, [.ref q1, .null, .null, .null, .int 0, .int 0])), (q1, .inl (k 6, 40, .inr (.inr (.inr (.inr (fun _ => none))))))] H := hP
  have hD : va_D A [(s0, .inr (6, [.ref q1, .null, .null, .null, .int 0, .int 0])), (q1, .inl (k 6, 40, .inr (.inr (.inr (.inr (fun _ => none))))))] := hD
  refine lv_aload_n hx hb dX8_init_13 rfl (lv_at hl 0 rfl) ?_
  refine lv_bipush (v := 40) hx hb dX8_init_14 (by decide) ?_
  refine va_newa (atype := .int) (a0 := (40, .inl (fun _ => 0))) (ty := .int) hx hb (hts (.arrayClass .int) (by decide +kernel)) rfl hK hP hD hS hA (fun _ => rfl) (by decide) rfl (by decide) (Nat.le_of_ble_eq_true rfl) (Nat.le_of_ble_eq_true rfl) dX8_init_16 (fun q3 cA4 H hK9 hP hD hS => ?_)
  obtain rfl := g_cls (cA := k 0) (cB := cA4) (ty := .int) 0 7 hK9 rfl rfl rfl
  have hP : va_P D vwCl [(s0, .inr (6, [.ref q1, .null, .null, .null, .int 0, .int 0])), (q1, .inl (k 6, 40, .inr (.inr (.inr (.inr (fun _ => none)))))), (q3, .inl (k 0, 40, .inl (fun _ => 0)))] H := hP
  have hD : va_D A [(s0, .inr (6, [.ref q1, .null, .null, .null, .int 0, .int 0])), (q1, .inl (k 6, 40, .inr (.inr (.inr (.inr (fun _ => none)))))), (q3, .inl (k 0, 40, .inl (fun _ => 0)))] := hD
  refine W.widen (k := 2) (n := 80) (Nat.le_of_ble_eq_true rfl) (Nat.le_of_ble_eq_true rfl) ?_
  refine va_putF (D := D) (ci := 6) (v := .ref q3) (ty := .array .int) (C := RX8) (T := TX8) (N := 6) hx hb hts inX8_init_X8 tyX8 tyX8_ok nmX8 hown hK hP hD hS 0 rfl rfl 1 (by decide) (hts (.fieldLink RX8 15 "RungMoney$Sentence" "signs" "[I") (by decide +kernel)) (fun _ h9 => h9) rfl hin rfl (by decide +kernel) rfl rfl (Nat.le_of_ble_eq_true rfl) dX8_init_18 (fun H locs hP hD hS => ?_)
  have hP : va_P D vwCl [(s0, .inr (6, [.ref q1, .ref q3, .null, .null, .int 0, .int 0])), (q1, .inl (k 6, 40, .inr (.inr (.inr (.inr (fun _ => none)))))), (q3, .inl (k 0, 40, .inl (fun _ => 0)))] H := hP
  have hD : va_D A [(s0, .inr (6, [.ref q1, .ref q3, .null, .null, .int 0, .int 0])), (q1, .inl (k 6, 40, .inr (.inr (.inr (.inr (fun _ => none)))))), (q3, .inl (k 0, 40, .inl (fun _ => 0)))] := hD
  refine lv_aload_n hx hb dX8_init_21 rfl (lv_at hl 0 rfl) ?_
  refine lv_bipush (v := 40) hx hb dX8_init_22 (by decide) ?_
  refine va_newa (atype := .int) (a0 := (40, .inl (fun _ => 0))) (ty := .int) hx hb (hts (.arrayClass .int) (by decide +kernel)) rfl hK hP hD hS hA (fun _ => rfl) (by decide) rfl (by decide) (Nat.le_of_ble_eq_true rfl) (Nat.le_of_ble_eq_true rfl) dX8_init_24 (fun q5 cA6 H hK9 hP hD hS => ?_)
  obtain rfl := g_cls (cA := k 0) (cB := cA6) (ty := .int) 0 7 hK9 rfl rfl rfl
  have hP : va_P D vwCl [(s0, .inr (6, [.ref q1, .ref q3, .null, .null, .int 0, .int 0])), (q1, .inl (k 6, 40, .inr (.inr (.inr (.inr (fun _ => none)))))), (q3, .inl (k 0, 40, .inl (fun _ => 0))), (q5, .inl (k 0, 40, .inl (fun _ => 0)))] H := hP
  have hD : va_D A [(s0, .inr (6, [.ref q1, .ref q3, .null, .null, .int 0, .int 0])), (q1, .inl (k 6, 40, .inr (.inr (.inr (.inr (fun _ => none)))))), (q3, .inl (k 0, 40, .inl (fun _ => 0))), (q5, .inl (k 0, 40, .inl (fun _ => 0)))] := hD
  refine W.widen (k := 3) (n := 120) (Nat.le_of_ble_eq_true rfl) (Nat.le_of_ble_eq_true rfl) ?_
  refine va_putF (D := D) (ci := 6) (v := .ref q5) (ty := .array .int) (C := RX8) (T := TX8) (N := 6) hx hb hts inX8_init_X8 tyX8 tyX8_ok nmX8 hown hK hP hD hS 0 rfl rfl 2 (by decide) (hts (.fieldLink RX8 19 "RungMoney$Sentence" "numbers" "[I") (by decide +kernel)) (fun _ h9 => h9) rfl hin rfl (by decide +kernel) rfl rfl (Nat.le_of_ble_eq_true rfl) dX8_init_26 (fun H locs hP hD hS => ?_)
  have hP : va_P D vwCl [(s0, .inr (6, [.ref q1, .ref q3, .ref q5, .null, .int 0, .int 0])), (q1, .inl (k 6, 40, .inr (.inr (.inr (.inr (fun _ => none)))))), (q3, .inl (k 0, 40, .inl (fun _ => 0))), (q5, .inl (k 0, 40, .inl (fun _ => 0)))] H := hP
  have hD : va_D A [(s0, .inr (6, [.ref q1, .ref q3, .ref q5, .null, .int 0, .int 0])), (q1, .inl (k 6, 40, .inr (.inr (.inr (.inr (fun _ => none)))))), (q3, .inl (k 0, 40, .inl (fun _ => 0))), (q5, .inl (k 0, 40, .inl (fun _ => 0)))] := hD
  refine lv_aload_n hx hb dX8_init_29 rfl (lv_at hl 0 rfl) ?_
  refine lv_bipush (v := 40) hx hb dX8_init_30 (by decide) ?_
  refine va_newa (atype := .int) (a0 := (40, .inl (fun _ => 0))) (ty := .int) hx hb (hts (.arrayClass .int) (by decide +kernel)) rfl hK hP hD hS hA (fun _ => rfl) (by decide) rfl (by decide) (Nat.le_of_ble_eq_true rfl) (Nat.le_of_ble_eq_true rfl) dX8_init_32 (fun q7 cA8 H hK9 hP hD hS => ?_)
  obtain rfl := g_cls (cA := k 0) (cB := cA8) (ty := .int) 0 7 hK9 rfl rfl rfl
  have hP : va_P D vwCl [(s0, .inr (6, [.ref q1, .ref q3, .ref q5, .null, .int 0, .int 0])), (q1, .inl (k 6, 40, .inr (.inr (.inr (.inr (fun _ => none)))))), (q3, .inl (k 0, 40, .inl (fun _ => 0))), (q5, .inl (k 0, 40, .inl (fun _ => 0))), (q7, .inl (k 0, 40, .inl (fun _ => 0)))] H := hP
  have hD : va_D A [(s0, .inr (6, [.ref q1, .ref q3, .ref q5, .null, .int 0, .int 0])), (q1, .inl (k 6, 40, .inr (.inr (.inr (.inr (fun _ => none)))))), (q3, .inl (k 0, 40, .inl (fun _ => 0))), (q5, .inl (k 0, 40, .inl (fun _ => 0))), (q7, .inl (k 0, 40, .inl (fun _ => 0)))] := hD
  refine W.widen (k := 4) (n := 160) (Nat.le_of_ble_eq_true rfl) (Nat.le_of_ble_eq_true rfl) ?_
  refine va_putF (D := D) (ci := 6) (v := .ref q7) (ty := .array .int) (C := RX8) (T := TX8) (N := 6) hx hb hts inX8_init_X8 tyX8 tyX8_ok nmX8 hown hK hP hD hS 0 rfl rfl 3 (by decide) (hts (.fieldLink RX8 22 "RungMoney$Sentence" "stack" "[I") (by decide +kernel)) (fun _ h9 => h9) rfl hin rfl (by decide +kernel) rfl rfl (Nat.le_of_ble_eq_true rfl) dX8_init_34 (fun H locs hP hD hS => ?_)
  have hP : va_P D vwCl [(s0, .inr (6, [.ref q1, .ref q3, .ref q5, .ref q7, .int 0, .int 0])), (q1, .inl (k 6, 40, .inr (.inr (.inr (.inr (fun _ => none)))))), (q3, .inl (k 0, 40, .inl (fun _ => 0))), (q5, .inl (k 0, 40, .inl (fun _ => 0))), (q7, .inl (k 0, 40, .inl (fun _ => 0)))] H := hP
  have hD : va_D A [(s0, .inr (6, [.ref q1, .ref q3, .ref q5, .ref q7, .int 0, .int 0])), (q1, .inl (k 6, 40, .inr (.inr (.inr (.inr (fun _ => none)))))), (q3, .inl (k 0, 40, .inl (fun _ => 0))), (q5, .inl (k 0, 40, .inl (fun _ => 0))), (q7, .inl (k 0, 40, .inl (fun _ => 0)))] := hD
  refine lv_iconst (v := 0) hx hb dX8_init_37 (by decide) ?_
  refine lv_istore_n (lv' := [(1, .int 0), (0, .ref s0)]) hx hb dX8_init_38 rfl hl (by decide) rfl (fun ls hl => ?_)
  have hP : va_P D vwCl [(s0, .inr (6, [.ref q1, .ref q3, .ref q5, .ref q7, .int 0, .int 0])), (q1, .inl (k 6, 40, .inr (.inr (.inr (.inr (rgf (kq (ad 0)) 0)))))), (q3, .inl (k 0, 40, .inl (fun _ => 0))), (q5, .inl (k 0, 40, .inl (fun _ => 0))), (q7, .inl (k 0, 40, .inl (fun _ => 0)))] H := by rw [rgf_0]; exact hP
  have hD : va_D A [(s0, .inr (6, [.ref q1, .ref q3, .ref q5, .ref q7, .int 0, .int 0])), (q1, .inl (k 6, 40, .inr (.inr (.inr (.inr (rgf (kq (ad 0)) 0)))))), (q3, .inl (k 0, 40, .inl (fun _ => 0))), (q5, .inl (k 0, 40, .inl (fun _ => 0))), (q7, .inl (k 0, 40, .inl (fun _ => 0)))] := by rw [rgf_0]; exact hD
  refine g_loop 39 40 (fun i9 H locs ls => va_P D vwCl [(s0, .inr (6, [.ref q1, .ref q3, .ref q5, .ref q7, .int 0, .int 0])), (q1, .inl (k 6, 40, .inr (.inr (.inr (.inr (rgf (kq (ad 0)) i9)))))), (q3, .inl (k 0, 40, .inl (fun _ => 0))), (q5, .inl (k 0, 40, .inl (fun _ => 0))), (q7, .inl (k 0, 40, .inl (fun _ => 0)))] H ∧ va_D A [(s0, .inr (6, [.ref q1, .ref q3, .ref q5, .ref q7, .int 0, .int 0])), (q1, .inl (k 6, 40, .inr (.inr (.inr (.inr (rgf (kq (ad 0)) i9)))))), (q3, .inl (k 0, 40, .inl (fun _ => 0))), (q5, .inl (k 0, 40, .inl (fun _ => 0))), (q7, .inl (k 0, 40, .inl (fun _ => 0)))] ∧ va_S A s.heap H locs ∧ lv_has ls 2 [(1, .int (nI i9)), (0, .ref s0)]) [] ?_ ?_ 0 (Nat.zero_le _) _ _ _ ⟨hP, hD, hS, lv_sub hl [0, 1] rfl⟩
  · intro H locs ls hI
    obtain ⟨hP, hD, hS, hl⟩ := hI
    have hl : lv_has ls 2 [(1, .int 40), (0, .ref s0)] := hl
    refine lv_iload_n hx hb dX8_init_39 rfl (lv_at hl 0 rfl) ?_
    refine lv_bipush (v := 40) hx hb dX8_init_40 (by decide) ?_
    refine lv_icmp_ge (tgt := 60) hx hb dX8_init_42 (by decide) (fun _ => ?_) (fun h9 => absurd (by decide) h9)
    have hP := hP.sub (ws' := [(s0, .inr (6, [.ref q1, .ref q3, .ref q5, .ref q7, .int 0, .int 0])), (q1, .inl (k 6, 40, .inr (.inr (.inr (.inr (rgf (kq (ad 0)) 40)))))), (q3, .inl (k 0, 40, .inl (fun _ => 0))), (q5, .inl (k 0, 40, .inl (fun _ => 0))), (q7, .inl (k 0, 40, .inl (fun _ => 0)))]) [0, 1, 2, 3, 4] rfl
    have hD := hD.sub (ws' := [(s0, .inr (6, [.ref q1, .ref q3, .ref q5, .ref q7, .int 0, .int 0])), (q1, .inl (k 6, 40, .inr (.inr (.inr (.inr (rgf (kq (ad 0)) 40)))))), (q3, .inl (k 0, 40, .inl (fun _ => 0))), (q5, .inl (k 0, 40, .inl (fun _ => 0))), (q7, .inl (k 0, 40, .inl (fun _ => 0)))]) [0, 1, 2, 3, 4] (by decide) rfl
    exact g_vret hx hb hr hlocks hK (g_lg [q1, q3, q5, q7]) hP hD hS dX8_init_60 ⟨Nat.le_of_ble_eq_true rfl, Nat.le_of_ble_eq_true rfl⟩
  · intro i9 hi9 ihi9 H locs ls hI
    obtain ⟨hP, hD, hS, hl⟩ := hI
    refine lv_iload_n hx hb dX8_init_39 rfl (lv_at hl 0 rfl) ?_
    refine lv_bipush (v := 40) hx hb dX8_init_40 (by decide) ?_
    refine lv_icmp_ge (tgt := 60) hx hb dX8_init_42 (by decide) (fun h9 => absurd h9 (fun z => absurd ((nI_leI (a := 40) (b := i9) (by omega) (by omega)).mp z) (by omega))) (fun _ => ?_)
    refine lv_aload_n hx hb dX8_init_45 rfl (lv_at hl 1 rfl) ?_
    refine va_get (D := D) (ci := 6) (v := .ref q1) (C := RX8) (T := TX8) (N := 6) hx hb hts inX8_init_X8 hown hK hP 0 rfl rfl 0 (by decide) (hts (.fieldLink RX8 11 "RungMoney$Sentence" "parts" "[LRungMoney$Key;") (by decide +kernel)) (fun _ h9 => h9) rfl dX8_init_46 ?_
    refine lv_iload_n hx hb dX8_init_49 rfl (lv_at hl 0 rfl) ?_
    refine va_gets (C := RX2) (n := "OTHER") (d := "LRungMoney$Key;") (v := .ref (ad 0)) hx hb (hEn.1 0 (by decide)).1 hS hown (hts (.fieldLink RX8 25 "RungMoney$Key" "OTHER" "LRungMoney$Key;") (by decide +kernel)) (fun _ h9 => h9) dX8_init_50 ?_
    refine va_astqM (E := "RungMoney$Key") hx hb hK hP hD hS 1 6 rfl rfl (g_any hEn (i := 0) (by decide) hS) (vp_in_nI (by omega) (by decide)) dX8_init_53 (fun H locs hP hD hS => ?_)
    have e9 : (va_up (rgf (kq (ad 0)) i9) (nI i9).toNatClampNeg (some (ad 0)) : Nat → Option Nat) = (rgf (kq (ad 0)) (i9 + 1)) := rgf_s (by omega) rfl
    have hP : va_P D vwCl [(s0, .inr (6, [.ref q1, .ref q3, .ref q5, .ref q7, .int 0, .int 0])), (q1, .inl (k 6, 40, .inr (.inr (.inr (.inr (rgf (kq (ad 0)) (i9 + 1))))))), (q3, .inl (k 0, 40, .inl (fun _ => 0))), (q5, .inl (k 0, 40, .inl (fun _ => 0))), (q7, .inl (k 0, 40, .inl (fun _ => 0)))] H := by rw [← e9]; exact hP
    have hD : va_D A [(s0, .inr (6, [.ref q1, .ref q3, .ref q5, .ref q7, .int 0, .int 0])), (q1, .inl (k 6, 40, .inr (.inr (.inr (.inr (rgf (kq (ad 0)) (i9 + 1))))))), (q3, .inl (k 0, 40, .inl (fun _ => 0))), (q5, .inl (k 0, 40, .inl (fun _ => 0))), (q7, .inl (k 0, 40, .inl (fun _ => 0)))] := by rw [← e9]; exact hD
    clear e9
    refine lv_iinc (v := (nI (i9 + 1))) (lv' := [(1, .int (nI (i9 + 1))), (0, .ref s0)]) hx hb dX8_init_54 hl (k := 0) rfl (nI_1 i9) (by decide) rfl (fun ls hl => ?_)
    refine lv_goto (tgt := 39) hx hb dX8_init_57 (by decide) ?_
    exact ihi9 _ _ _ ⟨hP, hD, hS, lv_sub hl [0, 1] rfl⟩
set_option maxHeartbeats 4000000 in
set_option maxRecDepth 100000 in
theorem cG_init (l : Launch) (D : va_G) (k : Nat → ClassId) (B0 : Nat) (ad : Nat → Nat) (al : Nat) (g0 : Nat) : g_Cv l yX4_init wsX4_init ({ frames := 1, cells := 4, slots := 160, locals := 12 }) D k (gX B0 ad al [(g0, .inr (2, [.null, .null, .null, .null, .int 0, .int 0, .int 0]))]) [.ref g0] [(g0, .inr (2, [.null, .null, .null, .null, .int 0, .int 0, .int 0]))] (fun u => [(g0, .inr (2, [.ref (u 0), .ref (u 1), .ref (u 2), .ref (u 3), .int 0, .int 0, .int 0])), ((u 0), .inl (k 6, 40, .inr (.inr (.inr (.inr (rgf (kq (ad 0)) 40)))))), ((u 1), .inl (k 0, 40, .inl (fun _ => 0))), ((u 2), .inl (k 0, 40, .inl (fun _ => 0))), ((u 3), .inl (k 0, 40, .inl (fun _ => 0)))]) 4 160 := by
  intro sz
  refine Met.ofW (cc := cX4_init) (maxL := 2) (ret := none) (by decide) rfl ?_
  intro p e s m args below meth c s₁ B hml hv
  obtain ⟨rfl, hsz, hP, hK, hD0, hE⟩ := hv
  have hx := B.exec
  have hb := B.bytes
  have hr := B.returns
  have hts := atoms_spec (ws := wsX4_init) B.pre
  have hown : s.vm.findClass RX4 = some m.cls := findClass_of_methodNamed B.named
  have hlocks := B.notSynchronized
  have hin : meth.name = "<init>" := (name_of_methodNamed B.named B.method).1
  subst hsz
  have hD := hD0.self (sz := s.heap.size)
  generalize hAe : va_A [(g0, .inr (2, [.null, .null, .null, .null, .int 0, .int 0, .int 0]))] s.heap.size = A at hD ⊢
  have hA : ∀ q : Nat, s.heap.size ≤ q → A q := fun q h => by rw [← hAe]; exact Or.inr h
  have hS : va_S A s.heap s.heap [] := va_S.rf
  have hP : va_P D vwCl [(g0, .inr (2, [.null, .null, .null, .null, .int 0, .int 0, .int 0]))] s.heap := hP
  have hl := lv_entry ([.ref g0]) (n := 2) (Nat.le_of_ble_eq_true rfl)
  rw [lg_entry_eq]
  generalize (lg_sl ([.ref g0]) ++ List.replicate (2 - (lg_sl ([.ref g0])).length) Slot.unset).toArray = ls at hl ⊢
  have hl : lv_has ls 2 [(0, .ref g0)] := hl
  have hAB := gX_AB hE hAe
  have hEn := hE.1.2.1.1.narrow hAB
  refine lv_aload_n hx hb dX4_init_0 rfl (lv_at hl 0 rfl) ?_
  refine W.objInit hx hb hown (hts (.methodLink RX4 3 objectInit) (by decide +kernel)) (hts (.instanceMethod objectInit) (by decide +kernel)) (hts (.code objectInit ⟨#[0xb1]⟩ 1 none) (by decide +kernel)) rfl (by rw [hml]; exact hl.1) rfl dX4_init_1 (Nat.le_of_ble_eq_true rfl) (Nat.le_of_ble_eq_true rfl) ?_
  refine W.eq (g2 := F0 m 4 ls []) rfl ?_
  refine lv_aload_n hx hb dX4_init_4 rfl (lv_at hl 0 rfl) ?_
  refine lv_bipush (v := 40) hx hb dX4_init_5 (by decide) ?_
  refine va_newq (C := "RungMoney$Key") hx hb hown (hts (.classLink RX4 11 RX2) (by decide +kernel)) hE.1.2.2.1.2.2.1 hK hP hD hS hA (by decide) rfl (by decide) (Nat.le_of_ble_eq_true rfl) (Nat.le_of_ble_eq_true rfl) dX4_init_7 (fun q1 cA2 H hK9 hP hD hS => ?_)
  obtain rfl := g_clsO (cA := k 6) (cB := cA2) (C := "RungMoney$Key") 6 7 hK9 rfl rfl
  have hP : va_P D vwCl [(g0, .inr (2, [.null, .null, .null, .null, .int 0, .int 0, .int 0])), (q1, .inl (k 6, 40, .inr (.inr (.inr (.inr (fun _ => none))))))] H := hP
  have hD : va_D A [(g0, .inr (2, [.null, .null, .null, .null, .int 0, .int 0, .int 0])), (q1, .inl (k 6, 40, .inr (.inr (.inr (.inr (fun _ => none))))))] := hD
  refine W.widen (k := 1) (n := 40) (Nat.le_of_ble_eq_true rfl) (Nat.le_of_ble_eq_true rfl) ?_
  refine va_putF (D := D) (ci := 2) (v := .ref q1) (ty := .array (.object "RungMoney$Key")) (C := RX4) (T := TX4) (N := 7) hx hb hts inX4_init_X4 tyX4 tyX4_ok nmX4 hown hK hP hD hS 0 rfl rfl 0 (by decide) (hts (.fieldLink RX4 13 "RungMoney$Ledger" "acts" "[LRungMoney$Key;") (by decide +kernel)) (fun _ h9 => h9) rfl hin rfl (by decide +kernel) rfl rfl (Nat.le_of_ble_eq_true rfl) dX4_init_10 (fun H locs hP hD hS => ?_)
  have hP : va_P D vwCl [(g0, .inr (2, [.ref q1, .null, .null, .null, .int 0, .int 0, .int 0])), (q1, .inl (k 6, 40, .inr (.inr (.inr (.inr (fun _ => none))))))] H := hP
  have hD : va_D A [(g0, .inr (2, [.ref q1, .null, .null, .null, .int 0, .int 0, .int 0])), (q1, .inl (k 6, 40, .inr (.inr (.inr (.inr (fun _ => none))))))] := hD
  refine lv_aload_n hx hb dX4_init_13 rfl (lv_at hl 0 rfl) ?_
  refine lv_bipush (v := 40) hx hb dX4_init_14 (by decide) ?_
  refine va_newa (atype := .int) (a0 := (40, .inl (fun _ => 0))) (ty := .int) hx hb (hts (.arrayClass .int) (by decide +kernel)) rfl hK hP hD hS hA (fun _ => rfl) (by decide) rfl (by decide) (Nat.le_of_ble_eq_true rfl) (Nat.le_of_ble_eq_true rfl) dX4_init_16 (fun q3 cA4 H hK9 hP hD hS => ?_)
  obtain rfl := g_cls (cA := k 0) (cB := cA4) (ty := .int) 0 7 hK9 rfl rfl rfl
  have hP : va_P D vwCl [(g0, .inr (2, [.ref q1, .null, .null, .null, .int 0, .int 0, .int 0])), (q1, .inl (k 6, 40, .inr (.inr (.inr (.inr (fun _ => none)))))), (q3, .inl (k 0, 40, .inl (fun _ => 0)))] H := hP
  have hD : va_D A [(g0, .inr (2, [.ref q1, .null, .null, .null, .int 0, .int 0, .int 0])), (q1, .inl (k 6, 40, .inr (.inr (.inr (.inr (fun _ => none)))))), (q3, .inl (k 0, 40, .inl (fun _ => 0)))] := hD
  refine W.widen (k := 2) (n := 80) (Nat.le_of_ble_eq_true rfl) (Nat.le_of_ble_eq_true rfl) ?_
  refine va_putF (D := D) (ci := 2) (v := .ref q3) (ty := .array .int) (C := RX4) (T := TX4) (N := 7) hx hb hts inX4_init_X4 tyX4 tyX4_ok nmX4 hown hK hP hD hS 0 rfl rfl 1 (by decide) (hts (.fieldLink RX4 17 "RungMoney$Ledger" "men" "[I") (by decide +kernel)) (fun _ h9 => h9) rfl hin rfl (by decide +kernel) rfl rfl (Nat.le_of_ble_eq_true rfl) dX4_init_18 (fun H locs hP hD hS => ?_)
  have hP : va_P D vwCl [(g0, .inr (2, [.ref q1, .ref q3, .null, .null, .int 0, .int 0, .int 0])), (q1, .inl (k 6, 40, .inr (.inr (.inr (.inr (fun _ => none)))))), (q3, .inl (k 0, 40, .inl (fun _ => 0)))] H := hP
  have hD : va_D A [(g0, .inr (2, [.ref q1, .ref q3, .null, .null, .int 0, .int 0, .int 0])), (q1, .inl (k 6, 40, .inr (.inr (.inr (.inr (fun _ => none)))))), (q3, .inl (k 0, 40, .inl (fun _ => 0)))] := hD
  refine lv_aload_n hx hb dX4_init_21 rfl (lv_at hl 0 rfl) ?_
  refine lv_bipush (v := 40) hx hb dX4_init_22 (by decide) ?_
  refine va_newa (atype := .int) (a0 := (40, .inl (fun _ => 0))) (ty := .int) hx hb (hts (.arrayClass .int) (by decide +kernel)) rfl hK hP hD hS hA (fun _ => rfl) (by decide) rfl (by decide) (Nat.le_of_ble_eq_true rfl) (Nat.le_of_ble_eq_true rfl) dX4_init_24 (fun q5 cA6 H hK9 hP hD hS => ?_)
  obtain rfl := g_cls (cA := k 0) (cB := cA6) (ty := .int) 0 7 hK9 rfl rfl rfl
  have hP : va_P D vwCl [(g0, .inr (2, [.ref q1, .ref q3, .null, .null, .int 0, .int 0, .int 0])), (q1, .inl (k 6, 40, .inr (.inr (.inr (.inr (fun _ => none)))))), (q3, .inl (k 0, 40, .inl (fun _ => 0))), (q5, .inl (k 0, 40, .inl (fun _ => 0)))] H := hP
  have hD : va_D A [(g0, .inr (2, [.ref q1, .ref q3, .null, .null, .int 0, .int 0, .int 0])), (q1, .inl (k 6, 40, .inr (.inr (.inr (.inr (fun _ => none)))))), (q3, .inl (k 0, 40, .inl (fun _ => 0))), (q5, .inl (k 0, 40, .inl (fun _ => 0)))] := hD
  refine W.widen (k := 3) (n := 120) (Nat.le_of_ble_eq_true rfl) (Nat.le_of_ble_eq_true rfl) ?_
  refine va_putF (D := D) (ci := 2) (v := .ref q5) (ty := .array .int) (C := RX4) (T := TX4) (N := 7) hx hb hts inX4_init_X4 tyX4 tyX4_ok nmX4 hown hK hP hD hS 0 rfl rfl 2 (by decide) (hts (.fieldLink RX4 21 "RungMoney$Ledger" "firsts" "[I") (by decide +kernel)) (fun _ h9 => h9) rfl hin rfl (by decide +kernel) rfl rfl (Nat.le_of_ble_eq_true rfl) dX4_init_26 (fun H locs hP hD hS => ?_)
  have hP : va_P D vwCl [(g0, .inr (2, [.ref q1, .ref q3, .ref q5, .null, .int 0, .int 0, .int 0])), (q1, .inl (k 6, 40, .inr (.inr (.inr (.inr (fun _ => none)))))), (q3, .inl (k 0, 40, .inl (fun _ => 0))), (q5, .inl (k 0, 40, .inl (fun _ => 0)))] H := hP
  have hD : va_D A [(g0, .inr (2, [.ref q1, .ref q3, .ref q5, .null, .int 0, .int 0, .int 0])), (q1, .inl (k 6, 40, .inr (.inr (.inr (.inr (fun _ => none)))))), (q3, .inl (k 0, 40, .inl (fun _ => 0))), (q5, .inl (k 0, 40, .inl (fun _ => 0)))] := hD
  refine lv_aload_n hx hb dX4_init_29 rfl (lv_at hl 0 rfl) ?_
  refine lv_bipush (v := 40) hx hb dX4_init_30 (by decide) ?_
  refine va_newa (atype := .int) (a0 := (40, .inl (fun _ => 0))) (ty := .int) hx hb (hts (.arrayClass .int) (by decide +kernel)) rfl hK hP hD hS hA (fun _ => rfl) (by decide) rfl (by decide) (Nat.le_of_ble_eq_true rfl) (Nat.le_of_ble_eq_true rfl) dX4_init_32 (fun q7 cA8 H hK9 hP hD hS => ?_)
  obtain rfl := g_cls (cA := k 0) (cB := cA8) (ty := .int) 0 7 hK9 rfl rfl rfl
  have hP : va_P D vwCl [(g0, .inr (2, [.ref q1, .ref q3, .ref q5, .null, .int 0, .int 0, .int 0])), (q1, .inl (k 6, 40, .inr (.inr (.inr (.inr (fun _ => none)))))), (q3, .inl (k 0, 40, .inl (fun _ => 0))), (q5, .inl (k 0, 40, .inl (fun _ => 0))), (q7, .inl (k 0, 40, .inl (fun _ => 0)))] H := hP
  have hD : va_D A [(g0, .inr (2, [.ref q1, .ref q3, .ref q5, .null, .int 0, .int 0, .int 0])), (q1, .inl (k 6, 40, .inr (.inr (.inr (.inr (fun _ => none)))))), (q3, .inl (k 0, 40, .inl (fun _ => 0))), (q5, .inl (k 0, 40, .inl (fun _ => 0))), (q7, .inl (k 0, 40, .inl (fun _ => 0)))] := hD
  refine W.widen (k := 4) (n := 160) (Nat.le_of_ble_eq_true rfl) (Nat.le_of_ble_eq_true rfl) ?_
  refine va_putF (D := D) (ci := 2) (v := .ref q7) (ty := .array .int) (C := RX4) (T := TX4) (N := 7) hx hb hts inX4_init_X4 tyX4 tyX4_ok nmX4 hown hK hP hD hS 0 rfl rfl 3 (by decide) (hts (.fieldLink RX4 24 "RungMoney$Ledger" "seconds" "[I") (by decide +kernel)) (fun _ h9 => h9) rfl hin rfl (by decide +kernel) rfl rfl (Nat.le_of_ble_eq_true rfl) dX4_init_34 (fun H locs hP hD hS => ?_)
  have hP : va_P D vwCl [(g0, .inr (2, [.ref q1, .ref q3, .ref q5, .ref q7, .int 0, .int 0, .int 0])), (q1, .inl (k 6, 40, .inr (.inr (.inr (.inr (fun _ => none)))))), (q3, .inl (k 0, 40, .inl (fun _ => 0))), (q5, .inl (k 0, 40, .inl (fun _ => 0))), (q7, .inl (k 0, 40, .inl (fun _ => 0)))] H := hP
  have hD : va_D A [(g0, .inr (2, [.ref q1, .ref q3, .ref q5, .ref q7, .int 0, .int 0, .int 0])), (q1, .inl (k 6, 40, .inr (.inr (.inr (.inr (fun _ => none)))))), (q3, .inl (k 0, 40, .inl (fun _ => 0))), (q5, .inl (k 0, 40, .inl (fun _ => 0))), (q7, .inl (k 0, 40, .inl (fun _ => 0)))] := hD
  refine lv_iconst (v := 0) hx hb dX4_init_37 (by decide) ?_
  refine lv_istore_n (lv' := [(1, .int 0), (0, .ref g0)]) hx hb dX4_init_38 rfl hl (by decide) rfl (fun ls hl => ?_)
  have hP : va_P D vwCl [(g0, .inr (2, [.ref q1, .ref q3, .ref q5, .ref q7, .int 0, .int 0, .int 0])), (q1, .inl (k 6, 40, .inr (.inr (.inr (.inr (rgf (kq (ad 0)) 0)))))), (q3, .inl (k 0, 40, .inl (fun _ => 0))), (q5, .inl (k 0, 40, .inl (fun _ => 0))), (q7, .inl (k 0, 40, .inl (fun _ => 0)))] H := by rw [rgf_0]; exact hP
  have hD : va_D A [(g0, .inr (2, [.ref q1, .ref q3, .ref q5, .ref q7, .int 0, .int 0, .int 0])), (q1, .inl (k 6, 40, .inr (.inr (.inr (.inr (rgf (kq (ad 0)) 0)))))), (q3, .inl (k 0, 40, .inl (fun _ => 0))), (q5, .inl (k 0, 40, .inl (fun _ => 0))), (q7, .inl (k 0, 40, .inl (fun _ => 0)))] := by rw [rgf_0]; exact hD
  refine g_loop 39 40 (fun i9 H locs ls => va_P D vwCl [(g0, .inr (2, [.ref q1, .ref q3, .ref q5, .ref q7, .int 0, .int 0, .int 0])), (q1, .inl (k 6, 40, .inr (.inr (.inr (.inr (rgf (kq (ad 0)) i9)))))), (q3, .inl (k 0, 40, .inl (fun _ => 0))), (q5, .inl (k 0, 40, .inl (fun _ => 0))), (q7, .inl (k 0, 40, .inl (fun _ => 0)))] H ∧ va_D A [(g0, .inr (2, [.ref q1, .ref q3, .ref q5, .ref q7, .int 0, .int 0, .int 0])), (q1, .inl (k 6, 40, .inr (.inr (.inr (.inr (rgf (kq (ad 0)) i9)))))), (q3, .inl (k 0, 40, .inl (fun _ => 0))), (q5, .inl (k 0, 40, .inl (fun _ => 0))), (q7, .inl (k 0, 40, .inl (fun _ => 0)))] ∧ va_S A s.heap H locs ∧ lv_has ls 2 [(1, .int (nI i9)), (0, .ref g0)]) [] ?_ ?_ 0 (Nat.zero_le _) _ _ _ ⟨hP, hD, hS, lv_sub hl [0, 1] rfl⟩
  · intro H locs ls hI
    obtain ⟨hP, hD, hS, hl⟩ := hI
    have hl : lv_has ls 2 [(1, .int 40), (0, .ref g0)] := hl
    refine lv_iload_n hx hb dX4_init_39 rfl (lv_at hl 0 rfl) ?_
    refine lv_bipush (v := 40) hx hb dX4_init_40 (by decide) ?_
    refine lv_icmp_ge (tgt := 60) hx hb dX4_init_42 (by decide) (fun _ => ?_) (fun h9 => absurd (by decide) h9)
    have hP := hP.sub (ws' := [(g0, .inr (2, [.ref q1, .ref q3, .ref q5, .ref q7, .int 0, .int 0, .int 0])), (q1, .inl (k 6, 40, .inr (.inr (.inr (.inr (rgf (kq (ad 0)) 40)))))), (q3, .inl (k 0, 40, .inl (fun _ => 0))), (q5, .inl (k 0, 40, .inl (fun _ => 0))), (q7, .inl (k 0, 40, .inl (fun _ => 0)))]) [0, 1, 2, 3, 4] rfl
    have hD := hD.sub (ws' := [(g0, .inr (2, [.ref q1, .ref q3, .ref q5, .ref q7, .int 0, .int 0, .int 0])), (q1, .inl (k 6, 40, .inr (.inr (.inr (.inr (rgf (kq (ad 0)) 40)))))), (q3, .inl (k 0, 40, .inl (fun _ => 0))), (q5, .inl (k 0, 40, .inl (fun _ => 0))), (q7, .inl (k 0, 40, .inl (fun _ => 0)))]) [0, 1, 2, 3, 4] (by decide) rfl
    exact g_vret hx hb hr hlocks hK (g_lg [q1, q3, q5, q7]) hP hD hS dX4_init_60 ⟨Nat.le_of_ble_eq_true rfl, Nat.le_of_ble_eq_true rfl⟩
  · intro i9 hi9 ihi9 H locs ls hI
    obtain ⟨hP, hD, hS, hl⟩ := hI
    refine lv_iload_n hx hb dX4_init_39 rfl (lv_at hl 0 rfl) ?_
    refine lv_bipush (v := 40) hx hb dX4_init_40 (by decide) ?_
    refine lv_icmp_ge (tgt := 60) hx hb dX4_init_42 (by decide) (fun h9 => absurd h9 (fun z => absurd ((nI_leI (a := 40) (b := i9) (by omega) (by omega)).mp z) (by omega))) (fun _ => ?_)
    refine lv_aload_n hx hb dX4_init_45 rfl (lv_at hl 1 rfl) ?_
    refine va_get (D := D) (ci := 2) (v := .ref q1) (C := RX4) (T := TX4) (N := 7) hx hb hts inX4_init_X4 hown hK hP 0 rfl rfl 0 (by decide) (hts (.fieldLink RX4 13 "RungMoney$Ledger" "acts" "[LRungMoney$Key;") (by decide +kernel)) (fun _ h9 => h9) rfl dX4_init_46 ?_
    refine lv_iload_n hx hb dX4_init_49 rfl (lv_at hl 0 rfl) ?_
    refine va_gets (C := RX2) (n := "OTHER") (d := "LRungMoney$Key;") (v := .ref (ad 0)) hx hb (hEn.1 0 (by decide)).1 hS hown (hts (.fieldLink RX4 27 "RungMoney$Key" "OTHER" "LRungMoney$Key;") (by decide +kernel)) (fun _ h9 => h9) dX4_init_50 ?_
    refine va_astqM (E := "RungMoney$Key") hx hb hK hP hD hS 1 6 rfl rfl (g_any hEn (i := 0) (by decide) hS) (vp_in_nI (by omega) (by decide)) dX4_init_53 (fun H locs hP hD hS => ?_)
    have e9 : (va_up (rgf (kq (ad 0)) i9) (nI i9).toNatClampNeg (some (ad 0)) : Nat → Option Nat) = (rgf (kq (ad 0)) (i9 + 1)) := rgf_s (by omega) rfl
    have hP : va_P D vwCl [(g0, .inr (2, [.ref q1, .ref q3, .ref q5, .ref q7, .int 0, .int 0, .int 0])), (q1, .inl (k 6, 40, .inr (.inr (.inr (.inr (rgf (kq (ad 0)) (i9 + 1))))))), (q3, .inl (k 0, 40, .inl (fun _ => 0))), (q5, .inl (k 0, 40, .inl (fun _ => 0))), (q7, .inl (k 0, 40, .inl (fun _ => 0)))] H := by rw [← e9]; exact hP
    have hD : va_D A [(g0, .inr (2, [.ref q1, .ref q3, .ref q5, .ref q7, .int 0, .int 0, .int 0])), (q1, .inl (k 6, 40, .inr (.inr (.inr (.inr (rgf (kq (ad 0)) (i9 + 1))))))), (q3, .inl (k 0, 40, .inl (fun _ => 0))), (q5, .inl (k 0, 40, .inl (fun _ => 0))), (q7, .inl (k 0, 40, .inl (fun _ => 0)))] := by rw [← e9]; exact hD
    clear e9
    refine lv_iinc (v := (nI (i9 + 1))) (lv' := [(1, .int (nI (i9 + 1))), (0, .ref g0)]) hx hb dX4_init_54 hl (k := 0) rfl (nI_1 i9) (by decide) rfl (fun ls hl => ?_)
    refine lv_goto (tgt := 39) hx hb dX4_init_57 (by decide) ?_
    exact ihi9 _ _ _ ⟨hP, hD, hS, lv_sub hl [0, 1] rfl⟩
set_option maxHeartbeats 4000000 in
set_option maxRecDepth 100000 in
theorem cFillT (l : Launch) (D : va_G) (k : Nat → ClassId) (a0 : Nat) : g_Cv l yJ7_fill_53178 wsJ7_fill_53178 ({ frames := 0, cells := 0, slots := 0, locals := 0 }) D k g_E0 [.ref a0, .int (-1)] [(a0, .inl (k 0, 4, .inl (fun _ => 0)))] (fun u => [(a0, .inl (k 0, 4, .inl tl4))]) 0 0 := by
  intro sz
  refine va_MetF (cc := cJ7_fill_53178) (maxL := 4) (ret := none) (by decide) rfl ?_
  intro p e s m args below meth c s₁ B hml hv
  obtain ⟨rfl, hsz, hP, hK, hD0, hE⟩ := hv
  have hx := B.exec
  have hb := B.bytes
  have hr := B.returns
  have hts := atoms_spec (ws := wsJ7_fill_53178) B.pre
  have hown : s.vm.findClass RJ7 = some m.cls := findClass_of_methodNamed B.named
  have hlocks := B.notSynchronized
  subst hsz
  have hD := hD0.self (sz := s.heap.size)
  generalize hAe : va_A [(a0, .inl (k 0, 4, .inl (fun _ => 0)))] s.heap.size = A at hD ⊢
  have hA : ∀ q : Nat, s.heap.size ≤ q → A q := fun q h => by rw [← hAe]; exact Or.inr h
  have hS : va_S A s.heap s.heap [] := va_S.rf
  have hP : va_P D vwCl [(a0, .inl (k 0, 4, .inl (fun _ => 0)))] s.heap := hP
  have hl := lv_entry ([.ref a0, .int (-1)]) (n := 4) (Nat.le_of_ble_eq_true rfl)
  rw [lg_entry_eq]
  generalize (lg_sl ([.ref a0, .int (-1)]) ++ List.replicate (4 - (lg_sl ([.ref a0, .int (-1)])).length) Slot.unset).toArray = ls at hl ⊢
  have hl : lv_has ls 4 [(0, .ref a0), (1, .int (-1))] := hl
  refine lv_iconst (v := 0) hx hb dJ7_fill_53178_0 (by decide) ?_
  refine lv_istore_n (lv' := [(2, .int 0), (0, .ref a0), (1, .int (-1))]) hx hb dJ7_fill_53178_1 rfl hl (by decide) rfl (fun ls hl => ?_)
  refine lv_aload_n hx hb dJ7_fill_53178_2 rfl (lv_at hl 1 rfl) ?_
  refine va_alen (v := 4) hx hb hK hP 0 0 rfl rfl rfl dJ7_fill_53178_3 ?_
  refine lv_istore_n (lv' := [(3, .int 4), (2, .int 0), (0, .ref a0), (1, .int (-1))]) hx hb dJ7_fill_53178_4 rfl hl (by decide) rfl (fun ls hl => ?_)
  refine lv_iload_n hx hb dJ7_fill_53178_5 rfl (lv_at hl 1 rfl) ?_
  refine lv_iload_n hx hb dJ7_fill_53178_6 rfl (lv_at hl 0 rfl) ?_
  refine lv_icmp_ge (tgt := 20) hx hb dJ7_fill_53178_7 (by decide) (fun h9 => absurd h9 (by decide)) (fun _ => ?_)
  refine lv_aload_n hx hb dJ7_fill_53178_10 rfl (lv_at hl 2 rfl) ?_
  refine lv_iload_n hx hb dJ7_fill_53178_11 rfl (lv_at hl 1 rfl) ?_
  refine lv_iload_n hx hb dJ7_fill_53178_12 rfl (lv_at hl 3 rfl) ?_
  refine va_iast hx hb hK hP hD hS 0 0 rfl rfl (by unfold vp_in; decide) dJ7_fill_53178_13 (fun H locs hP hD hS => ?_)
  have hP : va_P D vwCl [(a0, .inl (k 0, 4, .inl (upd (fun _ => 0) 0 (-1))))] H := hP
  have hD : va_D A [(a0, .inl (k 0, 4, .inl (upd (fun _ => 0) 0 (-1))))] := hD
  refine lv_iinc (v := 1) (lv' := [(2, .int 1), (3, .int 4), (0, .ref a0), (1, .int (-1))]) hx hb dJ7_fill_53178_14 hl (k := 1) rfl (by decide) (by decide) rfl (fun ls hl => ?_)
  refine lv_goto (tgt := 5) hx hb dJ7_fill_53178_17 (by decide) ?_
  refine lv_iload_n hx hb dJ7_fill_53178_5 rfl (lv_at hl 0 rfl) ?_
  refine lv_iload_n hx hb dJ7_fill_53178_6 rfl (lv_at hl 1 rfl) ?_
  refine lv_icmp_ge (tgt := 20) hx hb dJ7_fill_53178_7 (by decide) (fun h9 => absurd h9 (by decide)) (fun _ => ?_)
  refine lv_aload_n hx hb dJ7_fill_53178_10 rfl (lv_at hl 2 rfl) ?_
  refine lv_iload_n hx hb dJ7_fill_53178_11 rfl (lv_at hl 0 rfl) ?_
  refine lv_iload_n hx hb dJ7_fill_53178_12 rfl (lv_at hl 3 rfl) ?_
  refine va_iast hx hb hK hP hD hS 0 0 rfl rfl (by unfold vp_in; decide) dJ7_fill_53178_13 (fun H locs hP hD hS => ?_)
  have hP : va_P D vwCl [(a0, .inl (k 0, 4, .inl (upd (upd (fun _ => 0) 0 (-1)) 1 (-1))))] H := hP
  have hD : va_D A [(a0, .inl (k 0, 4, .inl (upd (upd (fun _ => 0) 0 (-1)) 1 (-1))))] := hD
  refine lv_iinc (v := 2) (lv' := [(2, .int 2), (3, .int 4), (0, .ref a0), (1, .int (-1))]) hx hb dJ7_fill_53178_14 hl (k := 0) rfl (by decide) (by decide) rfl (fun ls hl => ?_)
  refine lv_goto (tgt := 5) hx hb dJ7_fill_53178_17 (by decide) ?_
  refine lv_iload_n hx hb dJ7_fill_53178_5 rfl (lv_at hl 0 rfl) ?_
  refine lv_iload_n hx hb dJ7_fill_53178_6 rfl (lv_at hl 1 rfl) ?_
  refine lv_icmp_ge (tgt := 20) hx hb dJ7_fill_53178_7 (by decide) (fun h9 => absurd h9 (by decide)) (fun _ => ?_)
  refine lv_aload_n hx hb dJ7_fill_53178_10 rfl (lv_at hl 2 rfl) ?_
  refine lv_iload_n hx hb dJ7_fill_53178_11 rfl (lv_at hl 0 rfl) ?_
  refine lv_iload_n hx hb dJ7_fill_53178_12 rfl (lv_at hl 3 rfl) ?_
  refine va_iast hx hb hK hP hD hS 0 0 rfl rfl (by unfold vp_in; decide) dJ7_fill_53178_13 (fun H locs hP hD hS => ?_)
  have hP : va_P D vwCl [(a0, .inl (k 0, 4, .inl (upd (upd (upd (fun _ => 0) 0 (-1)) 1 (-1)) 2 (-1))))] H := hP
  have hD : va_D A [(a0, .inl (k 0, 4, .inl (upd (upd (upd (fun _ => 0) 0 (-1)) 1 (-1)) 2 (-1))))] := hD
  refine lv_iinc (v := 3) (lv' := [(2, .int 3), (3, .int 4), (0, .ref a0), (1, .int (-1))]) hx hb dJ7_fill_53178_14 hl (k := 0) rfl (by decide) (by decide) rfl (fun ls hl => ?_)
  refine lv_goto (tgt := 5) hx hb dJ7_fill_53178_17 (by decide) ?_
  refine lv_iload_n hx hb dJ7_fill_53178_5 rfl (lv_at hl 0 rfl) ?_
  refine lv_iload_n hx hb dJ7_fill_53178_6 rfl (lv_at hl 1 rfl) ?_
  refine lv_icmp_ge (tgt := 20) hx hb dJ7_fill_53178_7 (by decide) (fun h9 => absurd h9 (by decide)) (fun _ => ?_)
  refine lv_aload_n hx hb dJ7_fill_53178_10 rfl (lv_at hl 2 rfl) ?_
  refine lv_iload_n hx hb dJ7_fill_53178_11 rfl (lv_at hl 0 rfl) ?_
  refine lv_iload_n hx hb dJ7_fill_53178_12 rfl (lv_at hl 3 rfl) ?_
  refine va_iast hx hb hK hP hD hS 0 0 rfl rfl (by unfold vp_in; decide) dJ7_fill_53178_13 (fun H locs hP hD hS => ?_)
  have hP : va_P D vwCl [(a0, .inl (k 0, 4, .inl (upd (upd (upd (upd (fun _ => 0) 0 (-1)) 1 (-1)) 2 (-1)) 3 (-1))))] H := hP
  have hD : va_D A [(a0, .inl (k 0, 4, .inl (upd (upd (upd (upd (fun _ => 0) 0 (-1)) 1 (-1)) 2 (-1)) 3 (-1))))] := hD
  refine lv_iinc (v := 4) (lv' := [(2, .int 4), (3, .int 4), (0, .ref a0), (1, .int (-1))]) hx hb dJ7_fill_53178_14 hl (k := 0) rfl (by decide) (by decide) rfl (fun ls hl => ?_)
  refine lv_goto (tgt := 5) hx hb dJ7_fill_53178_17 (by decide) ?_
  refine lv_iload_n hx hb dJ7_fill_53178_5 rfl (lv_at hl 0 rfl) ?_
  refine lv_iload_n hx hb dJ7_fill_53178_6 rfl (lv_at hl 1 rfl) ?_
  refine lv_icmp_ge (tgt := 20) hx hb dJ7_fill_53178_7 (by decide) (fun _ => ?_) (fun h9 => absurd (by decide) h9)
  have hP := hP.sub (ws' := [(a0, .inl (k 0, 4, .inl tl4))]) [0] rfl
  have hD := hD.sub (ws' := [(a0, .inl (k 0, 4, .inl tl4))]) [0] (by decide) rfl
  exact g_vret hx hb hr hlocks hK (fun _ => 0) hP hD hS dJ7_fill_53178_20 ⟨Nat.le_of_ble_eq_true rfl, Nat.le_of_ble_eq_true rfl⟩

theorem t_0 : (0 : Int32).toInt = 0 := by decide
theorem dX3_copy_0 : decode cX3_copy 0 = .ok (.aload_n 0, 1) := by decide +kernel
theorem dX3_copy_1 : decode cX3_copy 1 = .ok (.aload_n 1, 1) := by decide +kernel
theorem dX3_copy_2 : decode cX3_copy 2 = .ok (.getfield 27, 3) := by decide +kernel
theorem dX3_copy_5 : decode cX3_copy 5 = .ok (.putfield 27, 3) := by decide +kernel
theorem dX3_copy_8 : decode cX3_copy 8 = .ok (.aload_n 1, 1) := by decide +kernel
theorem dX3_copy_9 : decode cX3_copy 9 = .ok (.getfield 9, 3) := by decide +kernel
theorem dX3_copy_12 : decode cX3_copy 12 = .ok (.iconst 0, 1) := by decide +kernel
theorem dX3_copy_13 : decode cX3_copy 13 = .ok (.aload_n 0, 1) := by decide +kernel
theorem dX3_copy_14 : decode cX3_copy 14 = .ok (.getfield 9, 3) := by decide +kernel
theorem dX3_copy_17 : decode cX3_copy 17 = .ok (.iconst 0, 1) := by decide +kernel
theorem dX3_copy_18 : decode cX3_copy 18 = .ok (.bipush 16, 2) := by decide +kernel
theorem dX3_copy_20 : decode cX3_copy 20 = .ok (.invokestatic 31, 3) := by decide +kernel
theorem dX3_copy_23 : decode cX3_copy 23 = .ok (.aload_n 1, 1) := by decide +kernel
theorem dX3_copy_24 : decode cX3_copy 24 = .ok (.getfield 15, 3) := by decide +kernel
theorem dX3_copy_27 : decode cX3_copy 27 = .ok (.iconst 0, 1) := by decide +kernel
theorem dX3_copy_28 : decode cX3_copy 28 = .ok (.aload_n 0, 1) := by decide +kernel
theorem dX3_copy_29 : decode cX3_copy 29 = .ok (.getfield 15, 3) := by decide +kernel
theorem dX3_copy_32 : decode cX3_copy 32 = .ok (.iconst 0, 1) := by decide +kernel
theorem dX3_copy_33 : decode cX3_copy 33 = .ok (.bipush 16, 2) := by decide +kernel
theorem dX3_copy_35 : decode cX3_copy 35 = .ok (.invokestatic 31, 3) := by decide +kernel
theorem dX3_copy_38 : decode cX3_copy 38 = .ok (.aload_n 1, 1) := by decide +kernel
theorem dX3_copy_39 : decode cX3_copy 39 = .ok (.getfield 18, 3) := by decide +kernel
theorem dX3_copy_42 : decode cX3_copy 42 = .ok (.iconst 0, 1) := by decide +kernel
theorem dX3_copy_43 : decode cX3_copy 43 = .ok (.aload_n 0, 1) := by decide +kernel
theorem dX3_copy_44 : decode cX3_copy 44 = .ok (.getfield 18, 3) := by decide +kernel
theorem dX3_copy_47 : decode cX3_copy 47 = .ok (.iconst 0, 1) := by decide +kernel
theorem dX3_copy_48 : decode cX3_copy 48 = .ok (.bipush 16, 2) := by decide +kernel
theorem dX3_copy_50 : decode cX3_copy 50 = .ok (.invokestatic 31, 3) := by decide +kernel
theorem dX3_copy_53 : decode cX3_copy 53 = .ok (.aload_n 1, 1) := by decide +kernel
theorem dX3_copy_54 : decode cX3_copy 54 = .ok (.getfield 21, 3) := by decide +kernel
theorem dX3_copy_57 : decode cX3_copy 57 = .ok (.iconst 0, 1) := by decide +kernel
theorem dX3_copy_58 : decode cX3_copy 58 = .ok (.aload_n 0, 1) := by decide +kernel
theorem dX3_copy_59 : decode cX3_copy 59 = .ok (.getfield 21, 3) := by decide +kernel
theorem dX3_copy_62 : decode cX3_copy 62 = .ok (.iconst 0, 1) := by decide +kernel
theorem dX3_copy_63 : decode cX3_copy 63 = .ok (.bipush 16, 2) := by decide +kernel
theorem dX3_copy_65 : decode cX3_copy 65 = .ok (.invokestatic 31, 3) := by decide +kernel
theorem dX3_copy_68 : decode cX3_copy 68 = .ok (.aload_n 1, 1) := by decide +kernel
theorem dX3_copy_69 : decode cX3_copy 69 = .ok (.getfield 24, 3) := by decide +kernel
theorem dX3_copy_72 : decode cX3_copy 72 = .ok (.iconst 0, 1) := by decide +kernel
theorem dX3_copy_73 : decode cX3_copy 73 = .ok (.aload_n 0, 1) := by decide +kernel
theorem dX3_copy_74 : decode cX3_copy 74 = .ok (.getfield 24, 3) := by decide +kernel
theorem dX3_copy_77 : decode cX3_copy 77 = .ok (.iconst 0, 1) := by decide +kernel
theorem dX3_copy_78 : decode cX3_copy 78 = .ok (.bipush 16, 2) := by decide +kernel
theorem dX3_copy_80 : decode cX3_copy 80 = .ok (.invokestatic 31, 3) := by decide +kernel
theorem dX3_copy_83 : decode cX3_copy 83 = .ok (.return_, 1) := by decide +kernel
theorem dX3_has_0 : decode cX3_has 0 = .ok (.iload_n 1, 1) := by decide +kernel
theorem dX3_has_1 : decode cX3_has 1 = .ok (.ifCond .lt 15, 3) := by decide +kernel
theorem dX3_has_4 : decode cX3_has 4 = .ok (.iload_n 1, 1) := by decide +kernel
theorem dX3_has_5 : decode cX3_has 5 = .ok (.aload_n 0, 1) := by decide +kernel
theorem dX3_has_6 : decode cX3_has 6 = .ok (.getfield 27, 3) := by decide +kernel
theorem dX3_has_9 : decode cX3_has 9 = .ok (.if_icmp .ge 7, 3) := by decide +kernel
theorem dX3_has_16 : decode cX3_has 16 = .ok (.iconst 0, 1) := by decide +kernel
theorem dX3_has_17 : decode cX3_has 17 = .ok (.ireturn, 1) := by decide +kernel
set_option maxRecDepth 20000 in
theorem ggX3_isThere_X3_has : GoodIn wsX3_isThere wsX3_has := goodIn_r _ [6, 7, 8, 9, 10, 11, 12, 13] (by decide +kernel) (by decide +kernel)
set_option maxRecDepth 20000 in
theorem gX3_isThere_X3_has : GoodIn wsX3_isThere (wsV RX3 37 RX3 yX3_has wsX3_has) := goodIn_app (goodIn_of _ (by decide +kernel)) ggX3_isThere_X3_has
theorem dX3_isThere_0 : decode cX3_isThere 0 = .ok (.aload_n 0, 1) := by decide +kernel
theorem dX3_isThere_1 : decode cX3_isThere 1 = .ok (.iload_n 1, 1) := by decide +kernel
theorem dX3_isThere_2 : decode cX3_isThere 2 = .ok (.invokevirtual 37, 3) := by decide +kernel
theorem dX3_isThere_5 : decode cX3_isThere 5 = .ok (.ifCond .eq 17, 3) := by decide +kernel
theorem dX3_isThere_22 : decode cX3_isThere 22 = .ok (.iconst 0, 1) := by decide +kernel
theorem dX3_isThere_23 : decode cX3_isThere 23 = .ok (.ireturn, 1) := by decide +kernel
set_option maxRecDepth 20000 in
theorem ggX3_kind_X3_has : GoodIn wsX3_kind wsX3_has := goodIn_r _ [8, 9, 10, 11, 12, 13, 14, 15] (by decide +kernel) (by decide +kernel)
set_option maxRecDepth 20000 in
theorem gX3_kind_X3_has : GoodIn wsX3_kind (wsV RX3 37 RX3 yX3_has wsX3_has) := goodIn_app (goodIn_of _ (by decide +kernel)) ggX3_kind_X3_has
theorem dX3_kind_0 : decode cX3_kind 0 = .ok (.aload_n 0, 1) := by decide +kernel
theorem dX3_kind_1 : decode cX3_kind 1 = .ok (.iload_n 1, 1) := by decide +kernel
theorem dX3_kind_2 : decode cX3_kind 2 = .ok (.invokevirtual 37, 3) := by decide +kernel
theorem dX3_kind_5 : decode cX3_kind 5 = .ok (.ifCond .eq 17, 3) := by decide +kernel
theorem dX3_kind_22 : decode cX3_kind 22 = .ok (.iconst (-1), 1) := by decide +kernel
theorem dX3_kind_23 : decode cX3_kind 23 = .ok (.ireturn, 1) := by decide +kernel
theorem dX3_sum_0 : decode cX3_sum 0 = .ok (.iconst 0, 1) := by decide +kernel
theorem dX3_sum_1 : decode cX3_sum 1 = .ok (.istore_n 2, 1) := by decide +kernel
theorem dX3_sum_2 : decode cX3_sum 2 = .ok (.iconst 0, 1) := by decide +kernel
theorem dX3_sum_3 : decode cX3_sum 3 = .ok (.istore_n 3, 1) := by decide +kernel
theorem dX3_sum_4 : decode cX3_sum 4 = .ok (.iload_n 3, 1) := by decide +kernel
theorem dX3_sum_5 : decode cX3_sum 5 = .ok (.aload_n 0, 1) := by decide +kernel
theorem dX3_sum_6 : decode cX3_sum 6 = .ok (.getfield 27, 3) := by decide +kernel
theorem dX3_sum_9 : decode cX3_sum 9 = .ok (.if_icmp .ge 18, 3) := by decide +kernel
theorem dX3_sum_27 : decode cX3_sum 27 = .ok (.iload_n 2, 1) := by decide +kernel
theorem dX3_sum_28 : decode cX3_sum 28 = .ok (.ireturn, 1) := by decide +kernel
theorem dX3_bitsOf_0 : decode cX3_bitsOf 0 = .ok (.iconst 0, 1) := by decide +kernel
theorem dX3_bitsOf_1 : decode cX3_bitsOf 1 = .ok (.istore_n 2, 1) := by decide +kernel
theorem dX3_bitsOf_2 : decode cX3_bitsOf 2 = .ok (.iconst 0, 1) := by decide +kernel
theorem dX3_bitsOf_3 : decode cX3_bitsOf 3 = .ok (.istore_n 3, 1) := by decide +kernel
theorem dX3_bitsOf_4 : decode cX3_bitsOf 4 = .ok (.iload_n 3, 1) := by decide +kernel
theorem dX3_bitsOf_5 : decode cX3_bitsOf 5 = .ok (.aload_n 0, 1) := by decide +kernel
theorem dX3_bitsOf_6 : decode cX3_bitsOf 6 = .ok (.getfield 27, 3) := by decide +kernel
theorem dX3_bitsOf_9 : decode cX3_bitsOf 9 = .ok (.if_icmp .ge 25, 3) := by decide +kernel
theorem dX3_bitsOf_34 : decode cX3_bitsOf 34 = .ok (.iload_n 2, 1) := by decide +kernel
theorem dX3_bitsOf_35 : decode cX3_bitsOf 35 = .ok (.ireturn, 1) := by decide +kernel
set_option maxRecDepth 20000 in
theorem ggX3_bitsThere_X3_allBits : GoodIn wsX3_bitsThere wsX3_allBits := goodIn_r _ [5, 6, 12, 13, 14, 15, 16, 17] (by decide +kernel) (by decide +kernel)
set_option maxRecDepth 20000 in
theorem gX3_bitsThere_X3_allBits : GoodIn wsX3_bitsThere (wsV RX3 62 RX3 yX3_allBits wsX3_allBits) := goodIn_app (goodIn_of _ (by decide +kernel)) ggX3_bitsThere_X3_allBits
set_option maxRecDepth 20000 in
theorem ggX3_bitsThere_X3_bitsOf : GoodIn wsX3_bitsThere wsX3_bitsOf := goodIn_r _ [10, 6, 11, 12, 13, 14, 15, 16, 17] (by decide +kernel) (by decide +kernel)
set_option maxRecDepth 20000 in
theorem gX3_bitsThere_X3_bitsOf : GoodIn wsX3_bitsThere (wsV RX3 66 RX3 yX3_bitsOf wsX3_bitsOf) := goodIn_app (goodIn_of _ (by decide +kernel)) ggX3_bitsThere_X3_bitsOf
theorem dX3_bitsThere_0 : decode cX3_bitsThere 0 = .ok (.aload_n 0, 1) := by decide +kernel
theorem dX3_bitsThere_1 : decode cX3_bitsThere 1 = .ok (.invokevirtual 62, 3) := by decide +kernel
theorem dX3_bitsThere_4 : decode cX3_bitsThere 4 = .ok (.aload_n 0, 1) := by decide +kernel
theorem dX3_bitsThere_5 : decode cX3_bitsThere 5 = .ok (.iconst (-1), 1) := by decide +kernel
theorem dX3_bitsThere_6 : decode cX3_bitsThere 6 = .ok (.invokevirtual 66, 3) := by decide +kernel
theorem dX3_bitsThere_9 : decode cX3_bitsThere 9 = .ok (.iconst (-1), 1) := by decide +kernel
theorem dX3_bitsThere_10 : decode cX3_bitsThere 10 = .ok (.ixor, 1) := by decide +kernel
theorem dX3_bitsThere_11 : decode cX3_bitsThere 11 = .ok (.iand, 1) := by decide +kernel
theorem dX3_bitsThere_12 : decode cX3_bitsThere 12 = .ok (.ireturn, 1) := by decide +kernel
theorem dX3_allBits_0 : decode cX3_allBits 0 = .ok (.iconst 1, 1) := by decide +kernel
theorem dX3_allBits_1 : decode cX3_allBits 1 = .ok (.aload_n 0, 1) := by decide +kernel
theorem dX3_allBits_2 : decode cX3_allBits 2 = .ok (.getfield 27, 3) := by decide +kernel
theorem dX3_allBits_5 : decode cX3_allBits 5 = .ok (.ishl, 1) := by decide +kernel
theorem dX3_allBits_6 : decode cX3_allBits 6 = .ok (.iconst 1, 1) := by decide +kernel
theorem dX3_allBits_7 : decode cX3_allBits 7 = .ok (.isub, 1) := by decide +kernel
theorem dX3_allBits_8 : decode cX3_allBits 8 = .ok (.ireturn, 1) := by decide +kernel
theorem dX3_bitsBearing_0 : decode cX3_bitsBearing 0 = .ok (.iconst 0, 1) := by decide +kernel
theorem dX3_bitsBearing_1 : decode cX3_bitsBearing 1 = .ok (.istore_n 1, 1) := by decide +kernel
theorem dX3_bitsBearing_2 : decode cX3_bitsBearing 2 = .ok (.iconst 0, 1) := by decide +kernel
theorem dX3_bitsBearing_3 : decode cX3_bitsBearing 3 = .ok (.istore_n 2, 1) := by decide +kernel
theorem dX3_bitsBearing_4 : decode cX3_bitsBearing 4 = .ok (.iload_n 2, 1) := by decide +kernel
theorem dX3_bitsBearing_5 : decode cX3_bitsBearing 5 = .ok (.aload_n 0, 1) := by decide +kernel
theorem dX3_bitsBearing_6 : decode cX3_bitsBearing 6 = .ok (.getfield 27, 3) := by decide +kernel
theorem dX3_bitsBearing_9 : decode cX3_bitsBearing 9 = .ok (.if_icmp .ge 23, 3) := by decide +kernel
theorem dX3_bitsBearing_32 : decode cX3_bitsBearing 32 = .ok (.iload_n 1, 1) := by decide +kernel
theorem dX3_bitsBearing_33 : decode cX3_bitsBearing 33 = .ok (.ireturn, 1) := by decide +kernel
theorem dX3_fewestFor_0 : decode cX3_fewestFor 0 = .ok (.iconst 0, 1) := by decide +kernel
theorem dX3_fewestFor_1 : decode cX3_fewestFor 1 = .ok (.istore_n 2, 1) := by decide +kernel
theorem dX3_fewestFor_2 : decode cX3_fewestFor 2 = .ok (.iconst 0, 1) := by decide +kernel
theorem dX3_fewestFor_3 : decode cX3_fewestFor 3 = .ok (.istore_n 3, 1) := by decide +kernel
theorem dX3_fewestFor_4 : decode cX3_fewestFor 4 = .ok (.bipush 32, 2) := by decide +kernel
theorem dX3_fewestFor_6 : decode cX3_fewestFor 6 = .ok (.istore 4, 2) := by decide +kernel
theorem dX3_fewestFor_8 : decode cX3_fewestFor 8 = .ok (.iload 4, 2) := by decide +kernel
theorem dX3_fewestFor_10 : decode cX3_fewestFor 10 = .ok (.ifCond .le 63, 3) := by decide +kernel
theorem dX3_fewestFor_13 : decode cX3_fewestFor 13 = .ok (.iconst 0, 1) := by decide +kernel
theorem dX3_fewestFor_14 : decode cX3_fewestFor 14 = .ok (.istore 5, 2) := by decide +kernel
theorem dX3_fewestFor_16 : decode cX3_fewestFor 16 = .ok (.iload 5, 2) := by decide +kernel
theorem dX3_fewestFor_18 : decode cX3_fewestFor 18 = .ok (.aload_n 0, 1) := by decide +kernel
theorem dX3_fewestFor_19 : decode cX3_fewestFor 19 = .ok (.getfield 27, 3) := by decide +kernel
theorem dX3_fewestFor_22 : decode cX3_fewestFor 22 = .ok (.if_icmp .ge 45, 3) := by decide +kernel
theorem dX3_fewestFor_67 : decode cX3_fewestFor 67 = .ok (.iinc 4 (-1), 3) := by decide +kernel
theorem dX3_fewestFor_70 : decode cX3_fewestFor 70 = .ok (.goto (-62), 3) := by decide +kernel
theorem dX3_fewestFor_73 : decode cX3_fewestFor 73 = .ok (.iconst (-1), 1) := by decide +kernel
theorem dX3_fewestFor_74 : decode cX3_fewestFor 74 = .ok (.ireturn, 1) := by decide +kernel
theorem dX3_leastLook_0 : decode cX3_leastLook 0 = .ok (.iconst (-1), 1) := by decide +kernel
theorem dX3_leastLook_1 : decode cX3_leastLook 1 = .ok (.istore_n 2, 1) := by decide +kernel
theorem dX3_leastLook_2 : decode cX3_leastLook 2 = .ok (.iconst 0, 1) := by decide +kernel
theorem dX3_leastLook_3 : decode cX3_leastLook 3 = .ok (.istore_n 3, 1) := by decide +kernel
theorem dX3_leastLook_4 : decode cX3_leastLook 4 = .ok (.iload_n 3, 1) := by decide +kernel
theorem dX3_leastLook_5 : decode cX3_leastLook 5 = .ok (.aload_n 0, 1) := by decide +kernel
theorem dX3_leastLook_6 : decode cX3_leastLook 6 = .ok (.getfield 27, 3) := by decide +kernel
theorem dX3_leastLook_9 : decode cX3_leastLook 9 = .ok (.if_icmp .ge 52, 3) := by decide +kernel
theorem dX3_leastLook_61 : decode cX3_leastLook 61 = .ok (.iload_n 2, 1) := by decide +kernel
theorem dX3_leastLook_62 : decode cX3_leastLook 62 = .ok (.ireturn, 1) := by decide +kernel
theorem dX3_mostPainted_0 : decode cX3_mostPainted 0 = .ok (.iconst (-1), 1) := by decide +kernel
theorem dX3_mostPainted_1 : decode cX3_mostPainted 1 = .ok (.istore_n 1, 1) := by decide +kernel
theorem dX3_mostPainted_2 : decode cX3_mostPainted 2 = .ok (.iconst 0, 1) := by decide +kernel
theorem dX3_mostPainted_3 : decode cX3_mostPainted 3 = .ok (.istore_n 2, 1) := by decide +kernel
theorem dX3_mostPainted_4 : decode cX3_mostPainted 4 = .ok (.iconst 1, 1) := by decide +kernel
theorem dX3_mostPainted_5 : decode cX3_mostPainted 5 = .ok (.istore_n 3, 1) := by decide +kernel
theorem dX3_mostPainted_6 : decode cX3_mostPainted 6 = .ok (.iconst 0, 1) := by decide +kernel
theorem dX3_mostPainted_7 : decode cX3_mostPainted 7 = .ok (.istore 4, 2) := by decide +kernel
theorem dX3_mostPainted_9 : decode cX3_mostPainted 9 = .ok (.iload 4, 2) := by decide +kernel
theorem dX3_mostPainted_11 : decode cX3_mostPainted 11 = .ok (.aload_n 0, 1) := by decide +kernel
theorem dX3_mostPainted_12 : decode cX3_mostPainted 12 = .ok (.getfield 27, 3) := by decide +kernel
theorem dX3_mostPainted_15 : decode cX3_mostPainted 15 = .ok (.if_icmp .ge 50, 3) := by decide +kernel
theorem dX3_mostPainted_65 : decode cX3_mostPainted 65 = .ok (.iload_n 1, 1) := by decide +kernel
theorem dX3_mostPainted_66 : decode cX3_mostPainted 66 = .ok (.ireturn, 1) := by decide +kernel
theorem dX3_rotBy_0 : decode cX3_rotBy 0 = .ok (.iload_n 1, 1) := by decide +kernel
theorem dX3_rotBy_1 : decode cX3_rotBy 1 = .ok (.istore_n 3, 1) := by decide +kernel
theorem dX3_rotBy_2 : decode cX3_rotBy 2 = .ok (.iconst 0, 1) := by decide +kernel
theorem dX3_rotBy_3 : decode cX3_rotBy 3 = .ok (.istore 4, 2) := by decide +kernel
theorem dX3_rotBy_5 : decode cX3_rotBy 5 = .ok (.iload 4, 2) := by decide +kernel
theorem dX3_rotBy_7 : decode cX3_rotBy 7 = .ok (.aload_n 0, 1) := by decide +kernel
theorem dX3_rotBy_8 : decode cX3_rotBy 8 = .ok (.getfield 27, 3) := by decide +kernel
theorem dX3_rotBy_11 : decode cX3_rotBy 11 = .ok (.if_icmp .ge 82, 3) := by decide +kernel
theorem dX3_rotBy_93 : decode cX3_rotBy 93 = .ok (.iload_n 3, 1) := by decide +kernel
theorem dX3_rotBy_94 : decode cX3_rotBy 94 = .ok (.ireturn, 1) := by decide +kernel
theorem inX3_has_X3 : ∀ w ∈ wsX30, w ∈ wsX3_has := by decide +kernel
theorem inX3_sum_X3 : ∀ w ∈ wsX30, w ∈ wsX3_sum := by decide +kernel
theorem inX3_bitsOf_X3 : ∀ w ∈ wsX30, w ∈ wsX3_bitsOf := by decide +kernel
theorem inX3_allBits_X3 : ∀ w ∈ wsX30, w ∈ wsX3_allBits := by decide +kernel
theorem inX3_bitsBearing_X3 : ∀ w ∈ wsX30, w ∈ wsX3_bitsBearing := by decide +kernel
theorem inX3_fewestFor_X3 : ∀ w ∈ wsX30, w ∈ wsX3_fewestFor := by decide +kernel
theorem inX3_leastLook_X3 : ∀ w ∈ wsX30, w ∈ wsX3_leastLook := by decide +kernel
theorem inX3_mostPainted_X3 : ∀ w ∈ wsX30, w ∈ wsX3_mostPainted := by decide +kernel
theorem inX3_rotBy_X3 : ∀ w ∈ wsX30, w ∈ wsX3_rotBy := by decide +kernel
theorem inX3_copy_X3 : ∀ w ∈ wsX30, w ∈ wsX3_copy := by decide +kernel
set_option maxHeartbeats 4000000 in
set_option maxRecDepth 100000 in
theorem cL_has (l : Launch) (D : va_G) (k : Nat → ClassId) (a2 : Nat) (a3 : Nat) (a4 : Nat) (a5 : Nat) (a6 : Nat) (a7 : Nat) (p0 : Int32) : g_Ci l yX3_has wsX3_has ({ frames := 0, cells := 0, slots := 0, locals := 0 }) D k g_E0 [.ref a2, .int p0] [(a2, .inr (1, [.int 0, .ref a3, .ref a4, .ref a5, .ref a6, .ref a7]))] 0 (fun u => [(a2, .inr (1, [.int 0, .ref a3, .ref a4, .ref a5, .ref a6, .ref a7]))]) 0 0 := by
  intro sz
  refine Met.ofW (cc := cX3_has) (maxL := 2) (ret := (some .boolean)) (by decide) rfl ?_
  intro p e s m args below meth c s₁ B hml hv
  obtain ⟨rfl, hsz, hP, hK, hD0, hE⟩ := hv
  have hx := B.exec
  have hb := B.bytes
  have hr := B.returns
  have hts := atoms_spec (ws := wsX3_has) B.pre
  have hown : s.vm.findClass RX3 = some m.cls := findClass_of_methodNamed B.named
  have hlocks := B.notSynchronized
  subst hsz
  have hD := hD0.self (sz := s.heap.size)
  generalize hAe : va_A [(a2, .inr (1, [.int 0, .ref a3, .ref a4, .ref a5, .ref a6, .ref a7]))] s.heap.size = A at hD ⊢
  have hA : ∀ q : Nat, s.heap.size ≤ q → A q := fun q h => by rw [← hAe]; exact Or.inr h
  have hS : va_S A s.heap s.heap [] := va_S.rf
  have hP : va_P D vwCl [(a2, .inr (1, [.int 0, .ref a3, .ref a4, .ref a5, .ref a6, .ref a7]))] s.heap := hP
  have hl := lv_entry ([.ref a2, .int p0]) (n := 2) (Nat.le_of_ble_eq_true rfl)
  rw [lg_entry_eq]
  generalize (lg_sl ([.ref a2, .int p0]) ++ List.replicate (2 - (lg_sl ([.ref a2, .int p0])).length) Slot.unset).toArray = ls at hl ⊢
  have hl : lv_has ls 2 [(0, .ref a2), (1, .int p0)] := hl
  refine lv_iload_n hx hb dX3_has_0 rfl (lv_at hl 1 rfl) ?_
  refine lv_if_lt (tgt := 16) hx hb dX3_has_1 (by decide) (fun c1 => ?_) (fun c1 => ?_)
  · refine lv_iconst (v := 0) hx hb dX3_has_16 (by decide) ?_
    have hP := hP.sub (ws' := [(a2, .inr (1, [.int 0, .ref a3, .ref a4, .ref a5, .ref a6, .ref a7]))]) [0] rfl
    have hD := hD.sub (ws' := [(a2, .inr (1, [.int 0, .ref a3, .ref a4, .ref a5, .ref a6, .ref a7]))]) [0] (by decide) rfl
    exact g_iret hx hb hr rfl hlocks hK (fun _ => 0) hP hD hS rfl dX3_has_17 ⟨Nat.le_of_ble_eq_true rfl, Nat.le_of_ble_eq_true rfl⟩
  · refine lv_iload_n hx hb dX3_has_4 rfl (lv_at hl 1 rfl) ?_
    refine lv_aload_n hx hb dX3_has_5 rfl (lv_at hl 0 rfl) ?_
    refine va_get (D := D) (ci := 1) (v := .int 0) (C := RX3) (T := TX3) (N := 6) hx hb hts inX3_has_X3 hown hK hP 0 rfl rfl 0 (by decide) (hts (.fieldLink RX3 27 "RungMoney$Ladders" "size" "I") (by decide +kernel)) (fun _ h9 => h9) rfl dX3_has_6 ?_
    refine lv_icmp_ge (tgt := 16) hx hb dX3_has_9 (by decide) (fun _ => ?_) (fun c2 => False.elim (by simp only [fa_lt, fa_le, fa_eq, t_0] at c1 c2; omega))
    refine lv_iconst (v := 0) hx hb dX3_has_16 (by decide) ?_
    have hP := hP.sub (ws' := [(a2, .inr (1, [.int 0, .ref a3, .ref a4, .ref a5, .ref a6, .ref a7]))]) [0] rfl
    have hD := hD.sub (ws' := [(a2, .inr (1, [.int 0, .ref a3, .ref a4, .ref a5, .ref a6, .ref a7]))]) [0] (by decide) rfl
    exact g_iret hx hb hr rfl hlocks hK (fun _ => 0) hP hD hS rfl dX3_has_17 ⟨Nat.le_of_ble_eq_true rfl, Nat.le_of_ble_eq_true rfl⟩
set_option maxHeartbeats 4000000 in
set_option maxRecDepth 100000 in
theorem cL_isThere (l : Launch) (D : va_G) (k : Nat → ClassId) (a2 : Nat) (a3 : Nat) (a4 : Nat) (a5 : Nat) (a6 : Nat) (a7 : Nat) (p0 : Int32) : g_Ci l yX3_isThere wsX3_isThere ({ frames := 1, cells := 0, slots := 0, locals := 21 }) D k g_E0 [.ref a2, .int p0] [(a2, .inr (1, [.int 0, .ref a3, .ref a4, .ref a5, .ref a6, .ref a7]))] 0 (fun u => [(a2, .inr (1, [.int 0, .ref a3, .ref a4, .ref a5, .ref a6, .ref a7]))]) 0 0 := by
  intro sz
  refine Met.ofW (cc := cX3_isThere) (maxL := 2) (ret := (some .boolean)) (by decide) rfl ?_
  intro p e s m args below meth c s₁ B hml hv
  obtain ⟨rfl, hsz, hP, hK, hD0, hE⟩ := hv
  have hx := B.exec
  have hb := B.bytes
  have hr := B.returns
  have hts := atoms_spec (ws := wsX3_isThere) B.pre
  have hown : s.vm.findClass RX3 = some m.cls := findClass_of_methodNamed B.named
  have hlocks := B.notSynchronized
  subst hsz
  have hD := hD0.self (sz := s.heap.size)
  generalize hAe : va_A [(a2, .inr (1, [.int 0, .ref a3, .ref a4, .ref a5, .ref a6, .ref a7]))] s.heap.size = A at hD ⊢
  have hA : ∀ q : Nat, s.heap.size ≤ q → A q := fun q h => by rw [← hAe]; exact Or.inr h
  have hS : va_S A s.heap s.heap [] := va_S.rf
  have hP : va_P D vwCl [(a2, .inr (1, [.int 0, .ref a3, .ref a4, .ref a5, .ref a6, .ref a7]))] s.heap := hP
  have hl := lv_entry ([.ref a2, .int p0]) (n := 2) (Nat.le_of_ble_eq_true rfl)
  rw [lg_entry_eq]
  generalize (lg_sl ([.ref a2, .int p0]) ++ List.replicate (2 - (lg_sl ([.ref a2, .int p0])).length) Slot.unset).toArray = ls at hl ⊢
  have hl : lv_has ls 2 [(0, .ref a2), (1, .int p0)] := hl
  refine lv_aload_n hx hb dX3_isThere_0 rfl (lv_at hl 0 rfl) ?_
  refine lv_iload_n hx hb dX3_isThere_1 rfl (lv_at hl 1 rfl) ?_
  refine g_iV (As := [.int p0]) (rest := []) (wr := []) ⟨hx, hb, hml, hown, hts⟩ (cL_has l D k a2 a3 a4 a5 a6 a7 p0) (cwV 1 hts gX3_isThere_X3_has rfl rfl rfl (by decide +kernel) ⟨Nat.le_of_ble_eq_true rfl, Nat.le_of_ble_eq_true rfl⟩) g_E0_ok (fun _ _ _ => trivial) hK hP hD hS hA 0 1 rfl rfl rfl [0] [] rfl rfl (by decide) rfl hl.1 rfl (Nat.le_of_ble_eq_true rfl) dX3_isThere_2 ⟨Nat.le_of_ble_eq_true rfl, Nat.le_of_ble_eq_true rfl⟩ (fun u1 H locs hP hD hS => ?_)
  have hP : va_P D vwCl [(a2, .inr (1, [.int 0, .ref a3, .ref a4, .ref a5, .ref a6, .ref a7]))] H := hP
  have hD : va_D A [(a2, .inr (1, [.int 0, .ref a3, .ref a4, .ref a5, .ref a6, .ref a7]))] := hD
  refine lv_if_eq (tgt := 22) hx hb dX3_isThere_5 (by decide) (fun _ => ?_) (fun h9 => absurd (by decide) h9)
  refine lv_iconst (v := 0) hx hb dX3_isThere_22 (by decide) ?_
  have hP := hP.sub (ws' := [(a2, .inr (1, [.int 0, .ref a3, .ref a4, .ref a5, .ref a6, .ref a7]))]) [0] rfl
  have hD := hD.sub (ws' := [(a2, .inr (1, [.int 0, .ref a3, .ref a4, .ref a5, .ref a6, .ref a7]))]) [0] (by decide) rfl
  exact g_iret hx hb hr rfl hlocks hK (fun _ => 0) hP hD hS rfl dX3_isThere_23 ⟨Nat.le_of_ble_eq_true rfl, Nat.le_of_ble_eq_true rfl⟩
set_option maxHeartbeats 4000000 in
set_option maxRecDepth 100000 in
theorem cL_kind (l : Launch) (D : va_G) (k : Nat → ClassId) (a2 : Nat) (a3 : Nat) (a4 : Nat) (a5 : Nat) (a6 : Nat) (a7 : Nat) (p0 : Int32) (p1 : Int32) : g_Ci l yX3_kind wsX3_kind ({ frames := 1, cells := 0, slots := 0, locals := 21 }) D k g_E0 [.ref a2, .int p0, .int p1] [(a2, .inr (1, [.int 0, .ref a3, .ref a4, .ref a5, .ref a6, .ref a7]))] (-1) (fun u => [(a2, .inr (1, [.int 0, .ref a3, .ref a4, .ref a5, .ref a6, .ref a7]))]) 0 0 := by
  intro sz
  refine Met.ofW (cc := cX3_kind) (maxL := 3) (ret := (some .int)) (by decide) rfl ?_
  intro p e s m args below meth c s₁ B hml hv
  obtain ⟨rfl, hsz, hP, hK, hD0, hE⟩ := hv
  have hx := B.exec
  have hb := B.bytes
  have hr := B.returns
  have hts := atoms_spec (ws := wsX3_kind) B.pre
  have hown : s.vm.findClass RX3 = some m.cls := findClass_of_methodNamed B.named
  have hlocks := B.notSynchronized
  subst hsz
  have hD := hD0.self (sz := s.heap.size)
  generalize hAe : va_A [(a2, .inr (1, [.int 0, .ref a3, .ref a4, .ref a5, .ref a6, .ref a7]))] s.heap.size = A at hD ⊢
  have hA : ∀ q : Nat, s.heap.size ≤ q → A q := fun q h => by rw [← hAe]; exact Or.inr h
  have hS : va_S A s.heap s.heap [] := va_S.rf
  have hP : va_P D vwCl [(a2, .inr (1, [.int 0, .ref a3, .ref a4, .ref a5, .ref a6, .ref a7]))] s.heap := hP
  have hl := lv_entry ([.ref a2, .int p0, .int p1]) (n := 3) (Nat.le_of_ble_eq_true rfl)
  rw [lg_entry_eq]
  generalize (lg_sl ([.ref a2, .int p0, .int p1]) ++ List.replicate (3 - (lg_sl ([.ref a2, .int p0, .int p1])).length) Slot.unset).toArray = ls at hl ⊢
  have hl : lv_has ls 3 [(0, .ref a2), (1, .int p0), (2, .int p1)] := hl
  refine lv_aload_n hx hb dX3_kind_0 rfl (lv_at hl 0 rfl) ?_
  refine lv_iload_n hx hb dX3_kind_1 rfl (lv_at hl 1 rfl) ?_
  refine g_iV (As := [.int p0]) (rest := []) (wr := []) ⟨hx, hb, hml, hown, hts⟩ (cL_has l D k a2 a3 a4 a5 a6 a7 p0) (cwV 1 hts gX3_kind_X3_has rfl rfl rfl (by decide +kernel) ⟨Nat.le_of_ble_eq_true rfl, Nat.le_of_ble_eq_true rfl⟩) g_E0_ok (fun _ _ _ => trivial) hK hP hD hS hA 0 1 rfl rfl rfl [0] [] rfl rfl (by decide) rfl hl.1 rfl (Nat.le_of_ble_eq_true rfl) dX3_kind_2 ⟨Nat.le_of_ble_eq_true rfl, Nat.le_of_ble_eq_true rfl⟩ (fun u1 H locs hP hD hS => ?_)
  have hP : va_P D vwCl [(a2, .inr (1, [.int 0, .ref a3, .ref a4, .ref a5, .ref a6, .ref a7]))] H := hP
  have hD : va_D A [(a2, .inr (1, [.int 0, .ref a3, .ref a4, .ref a5, .ref a6, .ref a7]))] := hD
  refine lv_if_eq (tgt := 22) hx hb dX3_kind_5 (by decide) (fun _ => ?_) (fun h9 => absurd (by decide) h9)
  refine lv_iconst (v := (-1)) hx hb dX3_kind_22 (by decide) ?_
  have hP := hP.sub (ws' := [(a2, .inr (1, [.int 0, .ref a3, .ref a4, .ref a5, .ref a6, .ref a7]))]) [0] rfl
  have hD := hD.sub (ws' := [(a2, .inr (1, [.int 0, .ref a3, .ref a4, .ref a5, .ref a6, .ref a7]))]) [0] (by decide) rfl
  exact g_iret hx hb hr rfl hlocks hK (fun _ => 0) hP hD hS rfl dX3_kind_23 ⟨Nat.le_of_ble_eq_true rfl, Nat.le_of_ble_eq_true rfl⟩
set_option maxHeartbeats 4000000 in
set_option maxRecDepth 100000 in
theorem cL_sum (l : Launch) (D : va_G) (k : Nat → ClassId) (a2 : Nat) (a3 : Nat) (a4 : Nat) (a5 : Nat) (a6 : Nat) (a7 : Nat) (p0 : Int32) : g_Ci l yX3_sum wsX3_sum ({ frames := 0, cells := 0, slots := 0, locals := 0 }) D k g_E0 [.ref a2, .int p0] [(a2, .inr (1, [.int 0, .ref a3, .ref a4, .ref a5, .ref a6, .ref a7]))] 0 (fun u => [(a2, .inr (1, [.int 0, .ref a3, .ref a4, .ref a5, .ref a6, .ref a7]))]) 0 0 := by
  intro sz
  refine Met.ofW (cc := cX3_sum) (maxL := 4) (ret := (some .int)) (by decide) rfl ?_
  intro p e s m args below meth c s₁ B hml hv
  obtain ⟨rfl, hsz, hP, hK, hD0, hE⟩ := hv
  have hx := B.exec
  have hb := B.bytes
  have hr := B.returns
  have hts := atoms_spec (ws := wsX3_sum) B.pre
  have hown : s.vm.findClass RX3 = some m.cls := findClass_of_methodNamed B.named
  have hlocks := B.notSynchronized
  subst hsz
  have hD := hD0.self (sz := s.heap.size)
  generalize hAe : va_A [(a2, .inr (1, [.int 0, .ref a3, .ref a4, .ref a5, .ref a6, .ref a7]))] s.heap.size = A at hD ⊢
  have hA : ∀ q : Nat, s.heap.size ≤ q → A q := fun q h => by rw [← hAe]; exact Or.inr h
  have hS : va_S A s.heap s.heap [] := va_S.rf
  have hP : va_P D vwCl [(a2, .inr (1, [.int 0, .ref a3, .ref a4, .ref a5, .ref a6, .ref a7]))] s.heap := hP
  have hl := lv_entry ([.ref a2, .int p0]) (n := 4) (Nat.le_of_ble_eq_true rfl)
  rw [lg_entry_eq]
  generalize (lg_sl ([.ref a2, .int p0]) ++ List.replicate (4 - (lg_sl ([.ref a2, .int p0])).length) Slot.unset).toArray = ls at hl ⊢
  have hl : lv_has ls 4 [(0, .ref a2), (1, .int p0)] := hl
  refine lv_iconst (v := 0) hx hb dX3_sum_0 (by decide) ?_
  refine lv_istore_n (lv' := [(2, .int 0), (0, .ref a2), (1, .int p0)]) hx hb dX3_sum_1 rfl hl (by decide) rfl (fun ls hl => ?_)
  refine lv_iconst (v := 0) hx hb dX3_sum_2 (by decide) ?_
  refine lv_istore_n (lv' := [(3, .int 0), (2, .int 0), (0, .ref a2), (1, .int p0)]) hx hb dX3_sum_3 rfl hl (by decide) rfl (fun ls hl => ?_)
  refine lv_iload_n hx hb dX3_sum_4 rfl (lv_at hl 0 rfl) ?_
  refine lv_aload_n hx hb dX3_sum_5 rfl (lv_at hl 2 rfl) ?_
  refine va_get (D := D) (ci := 1) (v := .int 0) (C := RX3) (T := TX3) (N := 6) hx hb hts inX3_sum_X3 hown hK hP 0 rfl rfl 0 (by decide) (hts (.fieldLink RX3 27 "RungMoney$Ladders" "size" "I") (by decide +kernel)) (fun _ h9 => h9) rfl dX3_sum_6 ?_
  refine lv_icmp_ge (tgt := 27) hx hb dX3_sum_9 (by decide) (fun _ => ?_) (fun h9 => absurd (by decide) h9)
  refine lv_iload_n hx hb dX3_sum_27 rfl (lv_at hl 1 rfl) ?_
  have hP := hP.sub (ws' := [(a2, .inr (1, [.int 0, .ref a3, .ref a4, .ref a5, .ref a6, .ref a7]))]) [0] rfl
  have hD := hD.sub (ws' := [(a2, .inr (1, [.int 0, .ref a3, .ref a4, .ref a5, .ref a6, .ref a7]))]) [0] (by decide) rfl
  exact g_iret hx hb hr rfl hlocks hK (fun _ => 0) hP hD hS rfl dX3_sum_28 ⟨Nat.le_of_ble_eq_true rfl, Nat.le_of_ble_eq_true rfl⟩
set_option maxHeartbeats 4000000 in
set_option maxRecDepth 100000 in
theorem cL_bitsOf (l : Launch) (D : va_G) (k : Nat → ClassId) (a2 : Nat) (a3 : Nat) (a4 : Nat) (a5 : Nat) (a6 : Nat) (a7 : Nat) (p0 : Int32) : g_Ci l yX3_bitsOf wsX3_bitsOf ({ frames := 0, cells := 0, slots := 0, locals := 0 }) D k g_E0 [.ref a2, .int p0] [(a2, .inr (1, [.int 0, .ref a3, .ref a4, .ref a5, .ref a6, .ref a7]))] 0 (fun u => [(a2, .inr (1, [.int 0, .ref a3, .ref a4, .ref a5, .ref a6, .ref a7]))]) 0 0 := by
  intro sz
  refine Met.ofW (cc := cX3_bitsOf) (maxL := 4) (ret := (some .int)) (by decide) rfl ?_
  intro p e s m args below meth c s₁ B hml hv
  obtain ⟨rfl, hsz, hP, hK, hD0, hE⟩ := hv
  have hx := B.exec
  have hb := B.bytes
  have hr := B.returns
  have hts := atoms_spec (ws := wsX3_bitsOf) B.pre
  have hown : s.vm.findClass RX3 = some m.cls := findClass_of_methodNamed B.named
  have hlocks := B.notSynchronized
  subst hsz
  have hD := hD0.self (sz := s.heap.size)
  generalize hAe : va_A [(a2, .inr (1, [.int 0, .ref a3, .ref a4, .ref a5, .ref a6, .ref a7]))] s.heap.size = A at hD ⊢
  have hA : ∀ q : Nat, s.heap.size ≤ q → A q := fun q h => by rw [← hAe]; exact Or.inr h
  have hS : va_S A s.heap s.heap [] := va_S.rf
  have hP : va_P D vwCl [(a2, .inr (1, [.int 0, .ref a3, .ref a4, .ref a5, .ref a6, .ref a7]))] s.heap := hP
  have hl := lv_entry ([.ref a2, .int p0]) (n := 4) (Nat.le_of_ble_eq_true rfl)
  rw [lg_entry_eq]
  generalize (lg_sl ([.ref a2, .int p0]) ++ List.replicate (4 - (lg_sl ([.ref a2, .int p0])).length) Slot.unset).toArray = ls at hl ⊢
  have hl : lv_has ls 4 [(0, .ref a2), (1, .int p0)] := hl
  refine lv_iconst (v := 0) hx hb dX3_bitsOf_0 (by decide) ?_
  refine lv_istore_n (lv' := [(2, .int 0), (0, .ref a2), (1, .int p0)]) hx hb dX3_bitsOf_1 rfl hl (by decide) rfl (fun ls hl => ?_)
  refine lv_iconst (v := 0) hx hb dX3_bitsOf_2 (by decide) ?_
  refine lv_istore_n (lv' := [(3, .int 0), (2, .int 0), (0, .ref a2), (1, .int p0)]) hx hb dX3_bitsOf_3 rfl hl (by decide) rfl (fun ls hl => ?_)
  refine lv_iload_n hx hb dX3_bitsOf_4 rfl (lv_at hl 0 rfl) ?_
  refine lv_aload_n hx hb dX3_bitsOf_5 rfl (lv_at hl 2 rfl) ?_
  refine va_get (D := D) (ci := 1) (v := .int 0) (C := RX3) (T := TX3) (N := 6) hx hb hts inX3_bitsOf_X3 hown hK hP 0 rfl rfl 0 (by decide) (hts (.fieldLink RX3 27 "RungMoney$Ladders" "size" "I") (by decide +kernel)) (fun _ h9 => h9) rfl dX3_bitsOf_6 ?_
  refine lv_icmp_ge (tgt := 34) hx hb dX3_bitsOf_9 (by decide) (fun _ => ?_) (fun h9 => absurd (by decide) h9)
  refine lv_iload_n hx hb dX3_bitsOf_34 rfl (lv_at hl 1 rfl) ?_
  have hP := hP.sub (ws' := [(a2, .inr (1, [.int 0, .ref a3, .ref a4, .ref a5, .ref a6, .ref a7]))]) [0] rfl
  have hD := hD.sub (ws' := [(a2, .inr (1, [.int 0, .ref a3, .ref a4, .ref a5, .ref a6, .ref a7]))]) [0] (by decide) rfl
  exact g_iret hx hb hr rfl hlocks hK (fun _ => 0) hP hD hS rfl dX3_bitsOf_35 ⟨Nat.le_of_ble_eq_true rfl, Nat.le_of_ble_eq_true rfl⟩
set_option maxHeartbeats 4000000 in
set_option maxRecDepth 100000 in
theorem cL_allBits (l : Launch) (D : va_G) (k : Nat → ClassId) (a2 : Nat) (a3 : Nat) (a4 : Nat) (a5 : Nat) (a6 : Nat) (a7 : Nat) : g_Ci l yX3_allBits wsX3_allBits ({ frames := 0, cells := 0, slots := 0, locals := 0 }) D k g_E0 [.ref a2] [(a2, .inr (1, [.int 0, .ref a3, .ref a4, .ref a5, .ref a6, .ref a7]))] 0 (fun u => [(a2, .inr (1, [.int 0, .ref a3, .ref a4, .ref a5, .ref a6, .ref a7]))]) 0 0 := by
  intro sz
  refine Met.ofW (cc := cX3_allBits) (maxL := 1) (ret := (some .int)) (by decide) rfl ?_
  intro p e s m args below meth c s₁ B hml hv
  obtain ⟨rfl, hsz, hP, hK, hD0, hE⟩ := hv
  have hx := B.exec
  have hb := B.bytes
  have hr := B.returns
  have hts := atoms_spec (ws := wsX3_allBits) B.pre
  have hown : s.vm.findClass RX3 = some m.cls := findClass_of_methodNamed B.named
  have hlocks := B.notSynchronized
  subst hsz
  have hD := hD0.self (sz := s.heap.size)
  generalize hAe : va_A [(a2, .inr (1, [.int 0, .ref a3, .ref a4, .ref a5, .ref a6, .ref a7]))] s.heap.size = A at hD ⊢
  have hA : ∀ q : Nat, s.heap.size ≤ q → A q := fun q h => by rw [← hAe]; exact Or.inr h
  have hS : va_S A s.heap s.heap [] := va_S.rf
  have hP : va_P D vwCl [(a2, .inr (1, [.int 0, .ref a3, .ref a4, .ref a5, .ref a6, .ref a7]))] s.heap := hP
  have hl := lv_entry ([.ref a2]) (n := 1) (Nat.le_of_ble_eq_true rfl)
  rw [lg_entry_eq]
  generalize (lg_sl ([.ref a2]) ++ List.replicate (1 - (lg_sl ([.ref a2])).length) Slot.unset).toArray = ls at hl ⊢
  have hl : lv_has ls 1 [(0, .ref a2)] := hl
  refine lv_iconst (v := 1) hx hb dX3_allBits_0 (by decide) ?_
  refine lv_aload_n hx hb dX3_allBits_1 rfl (lv_at hl 0 rfl) ?_
  refine va_get (D := D) (ci := 1) (v := .int 0) (C := RX3) (T := TX3) (N := 6) hx hb hts inX3_allBits_X3 hown hK hP 0 rfl rfl 0 (by decide) (hts (.fieldLink RX3 27 "RungMoney$Ladders" "size" "I") (by decide +kernel)) (fun _ h9 => h9) rfl dX3_allBits_2 ?_
  refine lv_ishl hx hb dX3_allBits_5 ?_
  refine lv_topi (fun x1 ex1 => ?_)
  obtain rfl : x1 = 1 := ex1.trans (by decide)
  refine lv_iconst (v := 1) hx hb dX3_allBits_6 (by decide) ?_
  refine lv_isub hx hb dX3_allBits_7 ?_
  refine lv_topi (fun x2 ex2 => ?_)
  obtain rfl : x2 = 0 := ex2.trans (by decide)
  have hP := hP.sub (ws' := [(a2, .inr (1, [.int 0, .ref a3, .ref a4, .ref a5, .ref a6, .ref a7]))]) [0] rfl
  have hD := hD.sub (ws' := [(a2, .inr (1, [.int 0, .ref a3, .ref a4, .ref a5, .ref a6, .ref a7]))]) [0] (by decide) rfl
  exact g_iret hx hb hr rfl hlocks hK (fun _ => 0) hP hD hS rfl dX3_allBits_8 ⟨Nat.le_of_ble_eq_true rfl, Nat.le_of_ble_eq_true rfl⟩
set_option maxHeartbeats 4000000 in
set_option maxRecDepth 100000 in
theorem cL_bitsThere (l : Launch) (D : va_G) (k : Nat → ClassId) (a2 : Nat) (a3 : Nat) (a4 : Nat) (a5 : Nat) (a6 : Nat) (a7 : Nat) : g_Ci l yX3_bitsThere wsX3_bitsThere ({ frames := 1, cells := 0, slots := 0, locals := 23 }) D k g_E0 [.ref a2] [(a2, .inr (1, [.int 0, .ref a3, .ref a4, .ref a5, .ref a6, .ref a7]))] 0 (fun u => [(a2, .inr (1, [.int 0, .ref a3, .ref a4, .ref a5, .ref a6, .ref a7]))]) 0 0 := by
  intro sz
  refine Met.ofW (cc := cX3_bitsThere) (maxL := 1) (ret := (some .int)) (by decide) rfl ?_
  intro p e s m args below meth c s₁ B hml hv
  obtain ⟨rfl, hsz, hP, hK, hD0, hE⟩ := hv
  have hx := B.exec
  have hb := B.bytes
  have hr := B.returns
  have hts := atoms_spec (ws := wsX3_bitsThere) B.pre
  have hown : s.vm.findClass RX3 = some m.cls := findClass_of_methodNamed B.named
  have hlocks := B.notSynchronized
  subst hsz
  have hD := hD0.self (sz := s.heap.size)
  generalize hAe : va_A [(a2, .inr (1, [.int 0, .ref a3, .ref a4, .ref a5, .ref a6, .ref a7]))] s.heap.size = A at hD ⊢
  have hA : ∀ q : Nat, s.heap.size ≤ q → A q := fun q h => by rw [← hAe]; exact Or.inr h
  have hS : va_S A s.heap s.heap [] := va_S.rf
  have hP : va_P D vwCl [(a2, .inr (1, [.int 0, .ref a3, .ref a4, .ref a5, .ref a6, .ref a7]))] s.heap := hP
  have hl := lv_entry ([.ref a2]) (n := 1) (Nat.le_of_ble_eq_true rfl)
  rw [lg_entry_eq]
  generalize (lg_sl ([.ref a2]) ++ List.replicate (1 - (lg_sl ([.ref a2])).length) Slot.unset).toArray = ls at hl ⊢
  have hl : lv_has ls 1 [(0, .ref a2)] := hl
  refine lv_aload_n hx hb dX3_bitsThere_0 rfl (lv_at hl 0 rfl) ?_
  refine g_iV (As := []) (rest := []) (wr := []) ⟨hx, hb, hml, hown, hts⟩ (cL_allBits l D k a2 a3 a4 a5 a6 a7) (cwV 0 hts gX3_bitsThere_X3_allBits rfl rfl rfl (by decide +kernel) ⟨Nat.le_of_ble_eq_true rfl, Nat.le_of_ble_eq_true rfl⟩) g_E0_ok (fun _ _ _ => trivial) hK hP hD hS hA 0 1 rfl rfl rfl [0] [] rfl rfl (by decide) rfl hl.1 rfl (Nat.le_of_ble_eq_true rfl) dX3_bitsThere_1 ⟨Nat.le_of_ble_eq_true rfl, Nat.le_of_ble_eq_true rfl⟩ (fun u1 H locs hP hD hS => ?_)
  have hP : va_P D vwCl [(a2, .inr (1, [.int 0, .ref a3, .ref a4, .ref a5, .ref a6, .ref a7]))] H := hP
  have hD : va_D A [(a2, .inr (1, [.int 0, .ref a3, .ref a4, .ref a5, .ref a6, .ref a7]))] := hD
  refine lv_aload_n hx hb dX3_bitsThere_4 rfl (lv_at hl 0 rfl) ?_
  refine lv_iconst (v := (-1)) hx hb dX3_bitsThere_5 (by decide) ?_
  refine g_iV (As := [.int (-1)]) (rest := [.int 0]) (wr := []) ⟨hx, hb, hml, hown, hts⟩ (cL_bitsOf l D k a2 a3 a4 a5 a6 a7 (-1)) (cwV 1 hts gX3_bitsThere_X3_bitsOf rfl rfl rfl (by decide +kernel) ⟨Nat.le_of_ble_eq_true rfl, Nat.le_of_ble_eq_true rfl⟩) g_E0_ok (fun _ _ _ => trivial) hK hP hD hS hA 0 1 rfl rfl rfl [0] [] rfl rfl (by decide) rfl hl.1 rfl (Nat.le_of_ble_eq_true rfl) dX3_bitsThere_6 ⟨Nat.le_of_ble_eq_true rfl, Nat.le_of_ble_eq_true rfl⟩ (fun u2 H locs hP hD hS => ?_)
  have hP : va_P D vwCl [(a2, .inr (1, [.int 0, .ref a3, .ref a4, .ref a5, .ref a6, .ref a7]))] H := hP
  have hD : va_D A [(a2, .inr (1, [.int 0, .ref a3, .ref a4, .ref a5, .ref a6, .ref a7]))] := hD
  refine lv_iconst (v := (-1)) hx hb dX3_bitsThere_9 (by decide) ?_
  refine lv_ixor hx hb dX3_bitsThere_10 ?_
  refine lv_topi (fun x3 ex3 => ?_)
  obtain rfl : x3 = (-1) := ex3.trans (by decide)
  refine lv_iand hx hb dX3_bitsThere_11 ?_
  refine lv_topi (fun x4 ex4 => ?_)
  obtain rfl : x4 = 0 := ex4.trans (by decide)
  have hP := hP.sub (ws' := [(a2, .inr (1, [.int 0, .ref a3, .ref a4, .ref a5, .ref a6, .ref a7]))]) [0] rfl
  have hD := hD.sub (ws' := [(a2, .inr (1, [.int 0, .ref a3, .ref a4, .ref a5, .ref a6, .ref a7]))]) [0] (by decide) rfl
  exact g_iret hx hb hr rfl hlocks hK (fun _ => 0) hP hD hS rfl dX3_bitsThere_12 ⟨Nat.le_of_ble_eq_true rfl, Nat.le_of_ble_eq_true rfl⟩
set_option maxHeartbeats 4000000 in
set_option maxRecDepth 100000 in
theorem cL_bitsBearing (l : Launch) (D : va_G) (k : Nat → ClassId) (a2 : Nat) (a3 : Nat) (a4 : Nat) (a5 : Nat) (a6 : Nat) (a7 : Nat) : g_Ci l yX3_bitsBearing wsX3_bitsBearing ({ frames := 0, cells := 0, slots := 0, locals := 0 }) D k g_E0 [.ref a2] [(a2, .inr (1, [.int 0, .ref a3, .ref a4, .ref a5, .ref a6, .ref a7]))] 0 (fun u => [(a2, .inr (1, [.int 0, .ref a3, .ref a4, .ref a5, .ref a6, .ref a7]))]) 0 0 := by
  intro sz
  refine Met.ofW (cc := cX3_bitsBearing) (maxL := 3) (ret := (some .int)) (by decide) rfl ?_
  intro p e s m args below meth c s₁ B hml hv
  obtain ⟨rfl, hsz, hP, hK, hD0, hE⟩ := hv
  have hx := B.exec
  have hb := B.bytes
  have hr := B.returns
  have hts := atoms_spec (ws := wsX3_bitsBearing) B.pre
  have hown : s.vm.findClass RX3 = some m.cls := findClass_of_methodNamed B.named
  have hlocks := B.notSynchronized
  subst hsz
  have hD := hD0.self (sz := s.heap.size)
  generalize hAe : va_A [(a2, .inr (1, [.int 0, .ref a3, .ref a4, .ref a5, .ref a6, .ref a7]))] s.heap.size = A at hD ⊢
  have hA : ∀ q : Nat, s.heap.size ≤ q → A q := fun q h => by rw [← hAe]; exact Or.inr h
  have hS : va_S A s.heap s.heap [] := va_S.rf
  have hP : va_P D vwCl [(a2, .inr (1, [.int 0, .ref a3, .ref a4, .ref a5, .ref a6, .ref a7]))] s.heap := hP
  have hl := lv_entry ([.ref a2]) (n := 3) (Nat.le_of_ble_eq_true rfl)
  rw [lg_entry_eq]
  generalize (lg_sl ([.ref a2]) ++ List.replicate (3 - (lg_sl ([.ref a2])).length) Slot.unset).toArray = ls at hl ⊢
  have hl : lv_has ls 3 [(0, .ref a2)] := hl
  refine lv_iconst (v := 0) hx hb dX3_bitsBearing_0 (by decide) ?_
  refine lv_istore_n (lv' := [(1, .int 0), (0, .ref a2)]) hx hb dX3_bitsBearing_1 rfl hl (by decide) rfl (fun ls hl => ?_)
  refine lv_iconst (v := 0) hx hb dX3_bitsBearing_2 (by decide) ?_
  refine lv_istore_n (lv' := [(2, .int 0), (1, .int 0), (0, .ref a2)]) hx hb dX3_bitsBearing_3 rfl hl (by decide) rfl (fun ls hl => ?_)
  refine lv_iload_n hx hb dX3_bitsBearing_4 rfl (lv_at hl 0 rfl) ?_
  refine lv_aload_n hx hb dX3_bitsBearing_5 rfl (lv_at hl 2 rfl) ?_
  refine va_get (D := D) (ci := 1) (v := .int 0) (C := RX3) (T := TX3) (N := 6) hx hb hts inX3_bitsBearing_X3 hown hK hP 0 rfl rfl 0 (by decide) (hts (.fieldLink RX3 27 "RungMoney$Ladders" "size" "I") (by decide +kernel)) (fun _ h9 => h9) rfl dX3_bitsBearing_6 ?_
  refine lv_icmp_ge (tgt := 32) hx hb dX3_bitsBearing_9 (by decide) (fun _ => ?_) (fun h9 => absurd (by decide) h9)
  refine lv_iload_n hx hb dX3_bitsBearing_32 rfl (lv_at hl 1 rfl) ?_
  have hP := hP.sub (ws' := [(a2, .inr (1, [.int 0, .ref a3, .ref a4, .ref a5, .ref a6, .ref a7]))]) [0] rfl
  have hD := hD.sub (ws' := [(a2, .inr (1, [.int 0, .ref a3, .ref a4, .ref a5, .ref a6, .ref a7]))]) [0] (by decide) rfl
  exact g_iret hx hb hr rfl hlocks hK (fun _ => 0) hP hD hS rfl dX3_bitsBearing_33 ⟨Nat.le_of_ble_eq_true rfl, Nat.le_of_ble_eq_true rfl⟩
set_option maxHeartbeats 4000000 in
set_option maxRecDepth 100000 in
theorem cL_fewestFor (l : Launch) (D : va_G) (k : Nat → ClassId) (a2 : Nat) (a3 : Nat) (a4 : Nat) (a5 : Nat) (a6 : Nat) (a7 : Nat) (p0 : Int32) : g_Ci l yX3_fewestFor wsX3_fewestFor ({ frames := 0, cells := 0, slots := 0, locals := 0 }) D k g_E0 [.ref a2, .int p0] [(a2, .inr (1, [.int 0, .ref a3, .ref a4, .ref a5, .ref a6, .ref a7]))] (-1) (fun u => [(a2, .inr (1, [.int 0, .ref a3, .ref a4, .ref a5, .ref a6, .ref a7]))]) 0 0 := by
  intro sz
  refine Met.ofW (cc := cX3_fewestFor) (maxL := 6) (ret := (some .int)) (by decide) rfl ?_
  intro p e s m args below meth c s₁ B hml hv
  obtain ⟨rfl, hsz, hP, hK, hD0, hE⟩ := hv
  have hx := B.exec
  have hb := B.bytes
  have hr := B.returns
  have hts := atoms_spec (ws := wsX3_fewestFor) B.pre
  have hown : s.vm.findClass RX3 = some m.cls := findClass_of_methodNamed B.named
  have hlocks := B.notSynchronized
  subst hsz
  have hD := hD0.self (sz := s.heap.size)
  generalize hAe : va_A [(a2, .inr (1, [.int 0, .ref a3, .ref a4, .ref a5, .ref a6, .ref a7]))] s.heap.size = A at hD ⊢
  have hA : ∀ q : Nat, s.heap.size ≤ q → A q := fun q h => by rw [← hAe]; exact Or.inr h
  have hS : va_S A s.heap s.heap [] := va_S.rf
  have hP : va_P D vwCl [(a2, .inr (1, [.int 0, .ref a3, .ref a4, .ref a5, .ref a6, .ref a7]))] s.heap := hP
  have hl := lv_entry ([.ref a2, .int p0]) (n := 6) (Nat.le_of_ble_eq_true rfl)
  rw [lg_entry_eq]
  generalize (lg_sl ([.ref a2, .int p0]) ++ List.replicate (6 - (lg_sl ([.ref a2, .int p0])).length) Slot.unset).toArray = ls at hl ⊢
  have hl : lv_has ls 6 [(0, .ref a2), (1, .int p0)] := hl
  refine lv_iconst (v := 0) hx hb dX3_fewestFor_0 (by decide) ?_
  refine lv_istore_n (lv' := [(2, .int 0), (0, .ref a2), (1, .int p0)]) hx hb dX3_fewestFor_1 rfl hl (by decide) rfl (fun ls hl => ?_)
  refine lv_iconst (v := 0) hx hb dX3_fewestFor_2 (by decide) ?_
  refine lv_istore_n (lv' := [(3, .int 0), (2, .int 0), (0, .ref a2), (1, .int p0)]) hx hb dX3_fewestFor_3 rfl hl (by decide) rfl (fun ls hl => ?_)
  refine lv_bipush (v := 32) hx hb dX3_fewestFor_4 (by decide) ?_
  refine lv_istore (lv' := [(4, .int 32), (3, .int 0), (2, .int 0), (0, .ref a2), (1, .int p0)]) hx hb dX3_fewestFor_6 hl (by decide) rfl (fun ls hl => ?_)
  refine g_loop 8 32 (fun i1 H locs ls => va_P D vwCl [(a2, .inr (1, [.int 0, .ref a3, .ref a4, .ref a5, .ref a6, .ref a7]))] H ∧ va_D A [(a2, .inr (1, [.int 0, .ref a3, .ref a4, .ref a5, .ref a6, .ref a7]))] ∧ va_S A s.heap H locs ∧ lv_has ls 6 [(4, .int (nI (32 - i1))), (3, .int 0), (2, .int 0), (0, .ref a2), (1, .int p0)]) [] ?_ ?_ 0 (Nat.zero_le _) _ _ _ ⟨hP, hD, hS, lv_sub hl [0, 1, 2, 3, 4] rfl⟩
  · intro H locs ls hI
    obtain ⟨hP, hD, hS, hl⟩ := hI
    have hl : lv_has ls 6 [(4, .int 0), (3, .int 0), (2, .int 0), (0, .ref a2), (1, .int p0)] := hl
    refine lv_iload hx hb dX3_fewestFor_8 (lv_at hl 0 rfl) ?_
    refine lv_if_le (tgt := 73) hx hb dX3_fewestFor_10 (by decide) (fun _ => ?_) (fun h9 => absurd (by decide) h9)
    refine lv_iconst (v := (-1)) hx hb dX3_fewestFor_73 (by decide) ?_
    have hP := hP.sub (ws' := [(a2, .inr (1, [.int 0, .ref a3, .ref a4, .ref a5, .ref a6, .ref a7]))]) [0] rfl
    have hD := hD.sub (ws' := [(a2, .inr (1, [.int 0, .ref a3, .ref a4, .ref a5, .ref a6, .ref a7]))]) [0] (by decide) rfl
    exact g_iret hx hb hr rfl hlocks hK (fun _ => 0) hP hD hS rfl dX3_fewestFor_74 ⟨Nat.le_of_ble_eq_true rfl, Nat.le_of_ble_eq_true rfl⟩
  · intro i1 hi1 ihi1 H locs ls hI
    obtain ⟨hP, hD, hS, hl⟩ := hI
    refine lv_iload hx hb dX3_fewestFor_8 (lv_at hl 0 rfl) ?_
    refine lv_if_le (tgt := 73) hx hb dX3_fewestFor_10 (by decide) (fun h9 => absurd h9 (fun z => absurd ((nI_leI (a := (32 - i1)) (b := 0) (by omega) (by omega)).mp z) (by omega))) (fun _ => ?_)
    refine lv_iconst (v := 0) hx hb dX3_fewestFor_13 (by decide) ?_
    refine lv_istore (lv' := [(5, .int 0), (4, .int (nI (32 - i1))), (3, .int 0), (2, .int 0), (0, .ref a2), (1, .int p0)]) hx hb dX3_fewestFor_14 hl (by decide) rfl (fun ls hl => ?_)
    refine lv_iload hx hb dX3_fewestFor_16 (lv_at hl 0 rfl) ?_
    refine lv_aload_n hx hb dX3_fewestFor_18 rfl (lv_at hl 4 rfl) ?_
    refine va_get (D := D) (ci := 1) (v := .int 0) (C := RX3) (T := TX3) (N := 6) hx hb hts inX3_fewestFor_X3 hown hK hP 0 rfl rfl 0 (by decide) (hts (.fieldLink RX3 27 "RungMoney$Ladders" "size" "I") (by decide +kernel)) (fun _ h9 => h9) rfl dX3_fewestFor_19 ?_
    refine lv_icmp_ge (tgt := 67) hx hb dX3_fewestFor_22 (by decide) (fun _ => ?_) (fun h9 => absurd (by decide) h9)
    refine lv_iinc (v := (nI (32 - (i1 + 1)))) (lv' := [(4, .int (nI (32 - (i1 + 1)))), (5, .int 0), (3, .int 0), (2, .int 0), (0, .ref a2), (1, .int p0)]) hx hb dX3_fewestFor_67 hl (k := 1) rfl (g_dn 32 i1 (by omega)) (by decide) rfl (fun ls hl => ?_)
    refine lv_goto (tgt := 8) hx hb dX3_fewestFor_70 (by decide) ?_
    exact ihi1 _ _ _ ⟨hP, hD, hS, lv_sub hl [0, 2, 3, 4, 5] rfl⟩
set_option maxHeartbeats 4000000 in
set_option maxRecDepth 100000 in
theorem cL_leastLook (l : Launch) (D : va_G) (k : Nat → ClassId) (a2 : Nat) (a3 : Nat) (a4 : Nat) (a5 : Nat) (a6 : Nat) (a7 : Nat) (p0 : Int32) : g_Ci l yX3_leastLook wsX3_leastLook ({ frames := 0, cells := 0, slots := 0, locals := 0 }) D k g_E0 [.ref a2, .int p0] [(a2, .inr (1, [.int 0, .ref a3, .ref a4, .ref a5, .ref a6, .ref a7]))] (-1) (fun u => [(a2, .inr (1, [.int 0, .ref a3, .ref a4, .ref a5, .ref a6, .ref a7]))]) 0 0 := by
  intro sz
  refine Met.ofW (cc := cX3_leastLook) (maxL := 5) (ret := (some .int)) (by decide) rfl ?_
  intro p e s m args below meth c s₁ B hml hv
  obtain ⟨rfl, hsz, hP, hK, hD0, hE⟩ := hv
  have hx := B.exec
  have hb := B.bytes
  have hr := B.returns
  have hts := atoms_spec (ws := wsX3_leastLook) B.pre
  have hown : s.vm.findClass RX3 = some m.cls := findClass_of_methodNamed B.named
  have hlocks := B.notSynchronized
  subst hsz
  have hD := hD0.self (sz := s.heap.size)
  generalize hAe : va_A [(a2, .inr (1, [.int 0, .ref a3, .ref a4, .ref a5, .ref a6, .ref a7]))] s.heap.size = A at hD ⊢
  have hA : ∀ q : Nat, s.heap.size ≤ q → A q := fun q h => by rw [← hAe]; exact Or.inr h
  have hS : va_S A s.heap s.heap [] := va_S.rf
  have hP : va_P D vwCl [(a2, .inr (1, [.int 0, .ref a3, .ref a4, .ref a5, .ref a6, .ref a7]))] s.heap := hP
  have hl := lv_entry ([.ref a2, .int p0]) (n := 5) (Nat.le_of_ble_eq_true rfl)
  rw [lg_entry_eq]
  generalize (lg_sl ([.ref a2, .int p0]) ++ List.replicate (5 - (lg_sl ([.ref a2, .int p0])).length) Slot.unset).toArray = ls at hl ⊢
  have hl : lv_has ls 5 [(0, .ref a2), (1, .int p0)] := hl
  refine lv_iconst (v := (-1)) hx hb dX3_leastLook_0 (by decide) ?_
  refine lv_istore_n (lv' := [(2, .int (-1)), (0, .ref a2), (1, .int p0)]) hx hb dX3_leastLook_1 rfl hl (by decide) rfl (fun ls hl => ?_)
  refine lv_iconst (v := 0) hx hb dX3_leastLook_2 (by decide) ?_
  refine lv_istore_n (lv' := [(3, .int 0), (2, .int (-1)), (0, .ref a2), (1, .int p0)]) hx hb dX3_leastLook_3 rfl hl (by decide) rfl (fun ls hl => ?_)
  refine lv_iload_n hx hb dX3_leastLook_4 rfl (lv_at hl 0 rfl) ?_
  refine lv_aload_n hx hb dX3_leastLook_5 rfl (lv_at hl 2 rfl) ?_
  refine va_get (D := D) (ci := 1) (v := .int 0) (C := RX3) (T := TX3) (N := 6) hx hb hts inX3_leastLook_X3 hown hK hP 0 rfl rfl 0 (by decide) (hts (.fieldLink RX3 27 "RungMoney$Ladders" "size" "I") (by decide +kernel)) (fun _ h9 => h9) rfl dX3_leastLook_6 ?_
  refine lv_icmp_ge (tgt := 61) hx hb dX3_leastLook_9 (by decide) (fun _ => ?_) (fun h9 => absurd (by decide) h9)
  refine lv_iload_n hx hb dX3_leastLook_61 rfl (lv_at hl 1 rfl) ?_
  have hP := hP.sub (ws' := [(a2, .inr (1, [.int 0, .ref a3, .ref a4, .ref a5, .ref a6, .ref a7]))]) [0] rfl
  have hD := hD.sub (ws' := [(a2, .inr (1, [.int 0, .ref a3, .ref a4, .ref a5, .ref a6, .ref a7]))]) [0] (by decide) rfl
  exact g_iret hx hb hr rfl hlocks hK (fun _ => 0) hP hD hS rfl dX3_leastLook_62 ⟨Nat.le_of_ble_eq_true rfl, Nat.le_of_ble_eq_true rfl⟩
set_option maxHeartbeats 4000000 in
set_option maxRecDepth 100000 in
theorem cL_mostPainted (l : Launch) (D : va_G) (k : Nat → ClassId) (a2 : Nat) (a3 : Nat) (a4 : Nat) (a5 : Nat) (a6 : Nat) (a7 : Nat) : g_Ci l yX3_mostPainted wsX3_mostPainted ({ frames := 0, cells := 0, slots := 0, locals := 0 }) D k g_E0 [.ref a2] [(a2, .inr (1, [.int 0, .ref a3, .ref a4, .ref a5, .ref a6, .ref a7]))] (-1) (fun u => [(a2, .inr (1, [.int 0, .ref a3, .ref a4, .ref a5, .ref a6, .ref a7]))]) 0 0 := by
  intro sz
  refine Met.ofW (cc := cX3_mostPainted) (maxL := 7) (ret := (some .int)) (by decide) rfl ?_
  intro p e s m args below meth c s₁ B hml hv
  obtain ⟨rfl, hsz, hP, hK, hD0, hE⟩ := hv
  have hx := B.exec
  have hb := B.bytes
  have hr := B.returns
  have hts := atoms_spec (ws := wsX3_mostPainted) B.pre
  have hown : s.vm.findClass RX3 = some m.cls := findClass_of_methodNamed B.named
  have hlocks := B.notSynchronized
  subst hsz
  have hD := hD0.self (sz := s.heap.size)
  generalize hAe : va_A [(a2, .inr (1, [.int 0, .ref a3, .ref a4, .ref a5, .ref a6, .ref a7]))] s.heap.size = A at hD ⊢
  have hA : ∀ q : Nat, s.heap.size ≤ q → A q := fun q h => by rw [← hAe]; exact Or.inr h
  have hS : va_S A s.heap s.heap [] := va_S.rf
  have hP : va_P D vwCl [(a2, .inr (1, [.int 0, .ref a3, .ref a4, .ref a5, .ref a6, .ref a7]))] s.heap := hP
  have hl := lv_entry ([.ref a2]) (n := 7) (Nat.le_of_ble_eq_true rfl)
  rw [lg_entry_eq]
  generalize (lg_sl ([.ref a2]) ++ List.replicate (7 - (lg_sl ([.ref a2])).length) Slot.unset).toArray = ls at hl ⊢
  have hl : lv_has ls 7 [(0, .ref a2)] := hl
  refine lv_iconst (v := (-1)) hx hb dX3_mostPainted_0 (by decide) ?_
  refine lv_istore_n (lv' := [(1, .int (-1)), (0, .ref a2)]) hx hb dX3_mostPainted_1 rfl hl (by decide) rfl (fun ls hl => ?_)
  refine lv_iconst (v := 0) hx hb dX3_mostPainted_2 (by decide) ?_
  refine lv_istore_n (lv' := [(2, .int 0), (1, .int (-1)), (0, .ref a2)]) hx hb dX3_mostPainted_3 rfl hl (by decide) rfl (fun ls hl => ?_)
  refine lv_iconst (v := 1) hx hb dX3_mostPainted_4 (by decide) ?_
  refine lv_istore_n (lv' := [(3, .int 1), (2, .int 0), (1, .int (-1)), (0, .ref a2)]) hx hb dX3_mostPainted_5 rfl hl (by decide) rfl (fun ls hl => ?_)
  refine lv_iconst (v := 0) hx hb dX3_mostPainted_6 (by decide) ?_
  refine lv_istore (lv' := [(4, .int 0), (3, .int 1), (2, .int 0), (1, .int (-1)), (0, .ref a2)]) hx hb dX3_mostPainted_7 hl (by decide) rfl (fun ls hl => ?_)
  refine lv_iload hx hb dX3_mostPainted_9 (lv_at hl 0 rfl) ?_
  refine lv_aload_n hx hb dX3_mostPainted_11 rfl (lv_at hl 4 rfl) ?_
  refine va_get (D := D) (ci := 1) (v := .int 0) (C := RX3) (T := TX3) (N := 6) hx hb hts inX3_mostPainted_X3 hown hK hP 0 rfl rfl 0 (by decide) (hts (.fieldLink RX3 27 "RungMoney$Ladders" "size" "I") (by decide +kernel)) (fun _ h9 => h9) rfl dX3_mostPainted_12 ?_
  refine lv_icmp_ge (tgt := 65) hx hb dX3_mostPainted_15 (by decide) (fun _ => ?_) (fun h9 => absurd (by decide) h9)
  refine lv_iload_n hx hb dX3_mostPainted_65 rfl (lv_at hl 3 rfl) ?_
  have hP := hP.sub (ws' := [(a2, .inr (1, [.int 0, .ref a3, .ref a4, .ref a5, .ref a6, .ref a7]))]) [0] rfl
  have hD := hD.sub (ws' := [(a2, .inr (1, [.int 0, .ref a3, .ref a4, .ref a5, .ref a6, .ref a7]))]) [0] (by decide) rfl
  exact g_iret hx hb hr rfl hlocks hK (fun _ => 0) hP hD hS rfl dX3_mostPainted_66 ⟨Nat.le_of_ble_eq_true rfl, Nat.le_of_ble_eq_true rfl⟩
set_option maxHeartbeats 4000000 in
set_option maxRecDepth 100000 in
theorem cL_rotBy (l : Launch) (D : va_G) (k : Nat → ClassId) (a2 : Nat) (a3 : Nat) (a4 : Nat) (a5 : Nat) (a6 : Nat) (a7 : Nat) (p0 : Int32) (p1 : Int32) : g_Ci l yX3_rotBy wsX3_rotBy ({ frames := 0, cells := 0, slots := 0, locals := 0 }) D k g_E0 [.ref a2, .int p0, .int p1] [(a2, .inr (1, [.int 0, .ref a3, .ref a4, .ref a5, .ref a6, .ref a7]))] p0 (fun u => [(a2, .inr (1, [.int 0, .ref a3, .ref a4, .ref a5, .ref a6, .ref a7]))]) 0 0 := by
  intro sz
  refine Met.ofW (cc := cX3_rotBy) (maxL := 6) (ret := (some .int)) (by decide) rfl ?_
  intro p e s m args below meth c s₁ B hml hv
  obtain ⟨rfl, hsz, hP, hK, hD0, hE⟩ := hv
  have hx := B.exec
  have hb := B.bytes
  have hr := B.returns
  have hts := atoms_spec (ws := wsX3_rotBy) B.pre
  have hown : s.vm.findClass RX3 = some m.cls := findClass_of_methodNamed B.named
  have hlocks := B.notSynchronized
  subst hsz
  have hD := hD0.self (sz := s.heap.size)
  generalize hAe : va_A [(a2, .inr (1, [.int 0, .ref a3, .ref a4, .ref a5, .ref a6, .ref a7]))] s.heap.size = A at hD ⊢
  have hA : ∀ q : Nat, s.heap.size ≤ q → A q := fun q h => by rw [← hAe]; exact Or.inr h
  have hS : va_S A s.heap s.heap [] := va_S.rf
  have hP : va_P D vwCl [(a2, .inr (1, [.int 0, .ref a3, .ref a4, .ref a5, .ref a6, .ref a7]))] s.heap := hP
  have hl := lv_entry ([.ref a2, .int p0, .int p1]) (n := 6) (Nat.le_of_ble_eq_true rfl)
  rw [lg_entry_eq]
  generalize (lg_sl ([.ref a2, .int p0, .int p1]) ++ List.replicate (6 - (lg_sl ([.ref a2, .int p0, .int p1])).length) Slot.unset).toArray = ls at hl ⊢
  have hl : lv_has ls 6 [(0, .ref a2), (1, .int p0), (2, .int p1)] := hl
  refine lv_iload_n hx hb dX3_rotBy_0 rfl (lv_at hl 1 rfl) ?_
  refine lv_istore_n (lv' := [(3, .int p0), (0, .ref a2), (1, .int p0), (2, .int p1)]) hx hb dX3_rotBy_1 rfl hl (by decide) rfl (fun ls hl => ?_)
  refine lv_iconst (v := 0) hx hb dX3_rotBy_2 (by decide) ?_
  refine lv_istore (lv' := [(4, .int 0), (3, .int p0), (0, .ref a2), (1, .int p0), (2, .int p1)]) hx hb dX3_rotBy_3 hl (by decide) rfl (fun ls hl => ?_)
  refine lv_iload hx hb dX3_rotBy_5 (lv_at hl 0 rfl) ?_
  refine lv_aload_n hx hb dX3_rotBy_7 rfl (lv_at hl 2 rfl) ?_
  refine va_get (D := D) (ci := 1) (v := .int 0) (C := RX3) (T := TX3) (N := 6) hx hb hts inX3_rotBy_X3 hown hK hP 0 rfl rfl 0 (by decide) (hts (.fieldLink RX3 27 "RungMoney$Ladders" "size" "I") (by decide +kernel)) (fun _ h9 => h9) rfl dX3_rotBy_8 ?_
  refine lv_icmp_ge (tgt := 93) hx hb dX3_rotBy_11 (by decide) (fun _ => ?_) (fun h9 => absurd (by decide) h9)
  refine lv_iload_n hx hb dX3_rotBy_93 rfl (lv_at hl 1 rfl) ?_
  have hP := hP.sub (ws' := [(a2, .inr (1, [.int 0, .ref a3, .ref a4, .ref a5, .ref a6, .ref a7]))]) [0] rfl
  have hD := hD.sub (ws' := [(a2, .inr (1, [.int 0, .ref a3, .ref a4, .ref a5, .ref a6, .ref a7]))]) [0] (by decide) rfl
  exact g_iret hx hb hr rfl hlocks hK (fun _ => 0) hP hD hS rfl dX3_rotBy_94 ⟨Nat.le_of_ble_eq_true rfl, Nat.le_of_ble_eq_true rfl⟩
set_option maxHeartbeats 4000000 in
set_option maxRecDepth 100000 in
theorem cL_copy (l : Launch) (D : va_G) (k : Nat → ClassId) (a2 : Nat) (a3 : Nat) (a4 : Nat) (a5 : Nat) (a6 : Nat) (a7 : Nat) (b2 : Nat) (b3 : Nat) (b4 : Nat) (b5 : Nat) (b6 : Nat) (b7 : Nat) : g_Cv l yX3_copy wsX3_copy ({ frames := 1, cells := 0, slots := 0, locals := 60 }) D k g_E0 [.ref a2, .ref b2] [(a2, .inr (1, [.int 0, .ref a3, .ref a4, .ref a5, .ref a6, .ref a7])), (a3, .inl (k 0, 16, .inl (fun _ => 0))), (a4, .inl (k 0, 16, .inl (fun _ => 0))), (a5, .inl (k 0, 16, .inl (fun _ => 0))), (a6, .inl (k 0, 16, .inl (fun _ => 0))), (a7, .inl (k 0, 16, .inl (fun _ => 0))), (b2, .inr (1, [.int 0, .ref b3, .ref b4, .ref b5, .ref b6, .ref b7])), (b3, .inl (k 0, 16, .inl (fun _ => 0))), (b4, .inl (k 0, 16, .inl (fun _ => 0))), (b5, .inl (k 0, 16, .inl (fun _ => 0))), (b6, .inl (k 0, 16, .inl (fun _ => 0))), (b7, .inl (k 0, 16, .inl (fun _ => 0)))] (fun u => [(a2, .inr (1, [.int 0, .ref a3, .ref a4, .ref a5, .ref a6, .ref a7])), (a3, .inl (k 0, 16, .inl (fun _ => 0))), (a4, .inl (k 0, 16, .inl (fun _ => 0))), (a5, .inl (k 0, 16, .inl (fun _ => 0))), (a6, .inl (k 0, 16, .inl (fun _ => 0))), (a7, .inl (k 0, 16, .inl (fun _ => 0))), (b2, .inr (1, [.int 0, .ref b3, .ref b4, .ref b5, .ref b6, .ref b7])), (b3, .inl (k 0, 16, .inl (fun _ => 0))), (b4, .inl (k 0, 16, .inl (fun _ => 0))), (b5, .inl (k 0, 16, .inl (fun _ => 0))), (b6, .inl (k 0, 16, .inl (fun _ => 0))), (b7, .inl (k 0, 16, .inl (fun _ => 0)))]) 0 0 := by
  intro sz
  refine Met.ofW (cc := cX3_copy) (maxL := 2) (ret := none) (by decide) rfl ?_
  intro p e s m args below meth c s₁ B hml hv
  obtain ⟨rfl, hsz, hP, hK, hD0, hE⟩ := hv
  have hx := B.exec
  have hb := B.bytes
  have hr := B.returns
  have hts := atoms_spec (ws := wsX3_copy) B.pre
  have hown : s.vm.findClass RX3 = some m.cls := findClass_of_methodNamed B.named
  have hlocks := B.notSynchronized
  subst hsz
  have hD := hD0.self (sz := s.heap.size)
  generalize hAe : va_A [(a2, .inr (1, [.int 0, .ref a3, .ref a4, .ref a5, .ref a6, .ref a7])), (a3, .inl (k 0, 16, .inl (fun _ => 0))), (a4, .inl (k 0, 16, .inl (fun _ => 0))), (a5, .inl (k 0, 16, .inl (fun _ => 0))), (a6, .inl (k 0, 16, .inl (fun _ => 0))), (a7, .inl (k 0, 16, .inl (fun _ => 0))), (b2, .inr (1, [.int 0, .ref b3, .ref b4, .ref b5, .ref b6, .ref b7])), (b3, .inl (k 0, 16, .inl (fun _ => 0))), (b4, .inl (k 0, 16, .inl (fun _ => 0))), (b5, .inl (k 0, 16, .inl (fun _ => 0))), (b6, .inl (k 0, 16, .inl (fun _ => 0))), (b7, .inl (k 0, 16, .inl (fun _ => 0)))] s.heap.size = A at hD ⊢
  have hA : ∀ q : Nat, s.heap.size ≤ q → A q := fun q h => by rw [← hAe]; exact Or.inr h
  have hS : va_S A s.heap s.heap [] := va_S.rf
  have hP : va_P D vwCl [(a2, .inr (1, [.int 0, .ref a3, .ref a4, .ref a5, .ref a6, .ref a7])), (a3, .inl (k 0, 16, .inl (fun _ => 0))), (a4, .inl (k 0, 16, .inl (fun _ => 0))), (a5, .inl (k 0, 16, .inl (fun _ => 0))), (a6, .inl (k 0, 16, .inl (fun _ => 0))), (a7, .inl (k 0, 16, .inl (fun _ => 0))), (b2, .inr (1, [.int 0, .ref b3, .ref b4, .ref b5, .ref b6, .ref b7])), (b3, .inl (k 0, 16, .inl (fun _ => 0))), (b4, .inl (k 0, 16, .inl (fun _ => 0))), (b5, .inl (k 0, 16, .inl (fun _ => 0))), (b6, .inl (k 0, 16, .inl (fun _ => 0))), (b7, .inl (k 0, 16, .inl (fun _ => 0)))] s.heap := hP
  have hl := lv_entry ([.ref a2, .ref b2]) (n := 2) (Nat.le_of_ble_eq_true rfl)
  rw [lg_entry_eq]
  generalize (lg_sl ([.ref a2, .ref b2]) ++ List.replicate (2 - (lg_sl ([.ref a2, .ref b2])).length) Slot.unset).toArray = ls at hl ⊢
  have hl : lv_has ls 2 [(0, .ref a2), (1, .ref b2)] := hl
  refine lv_aload_n hx hb dX3_copy_0 rfl (lv_at hl 0 rfl) ?_
  refine lv_aload_n hx hb dX3_copy_1 rfl (lv_at hl 1 rfl) ?_
  refine va_get (D := D) (ci := 1) (v := .int 0) (C := RX3) (T := TX3) (N := 6) hx hb hts inX3_copy_X3 hown hK hP 6 rfl rfl 0 (by decide) (hts (.fieldLink RX3 27 "RungMoney$Ladders" "size" "I") (by decide +kernel)) (fun _ h9 => h9) rfl dX3_copy_2 ?_
  refine va_put (D := D) (ci := 1) (v := .int 0) (ty := .int) (C := RX3) (T := TX3) (N := 6) hx hb hts inX3_copy_X3 tyX3 tyX3_ok nmX3 hown hK hP hD hS 0 rfl rfl 0 (by decide) (hts (.fieldLink RX3 27 "RungMoney$Ladders" "size" "I") (by decide +kernel)) (fun _ h9 => h9) rfl (by decide +kernel) rfl rfl (Nat.le_of_ble_eq_true rfl) dX3_copy_5 (fun H locs hP hD hS => ?_)
  have hP : va_P D vwCl [(a2, .inr (1, [.int 0, .ref a3, .ref a4, .ref a5, .ref a6, .ref a7])), (a3, .inl (k 0, 16, .inl (fun _ => 0))), (a4, .inl (k 0, 16, .inl (fun _ => 0))), (a5, .inl (k 0, 16, .inl (fun _ => 0))), (a6, .inl (k 0, 16, .inl (fun _ => 0))), (a7, .inl (k 0, 16, .inl (fun _ => 0))), (b2, .inr (1, [.int 0, .ref b3, .ref b4, .ref b5, .ref b6, .ref b7])), (b3, .inl (k 0, 16, .inl (fun _ => 0))), (b4, .inl (k 0, 16, .inl (fun _ => 0))), (b5, .inl (k 0, 16, .inl (fun _ => 0))), (b6, .inl (k 0, 16, .inl (fun _ => 0))), (b7, .inl (k 0, 16, .inl (fun _ => 0)))] H := hP
  have hD : va_D A [(a2, .inr (1, [.int 0, .ref a3, .ref a4, .ref a5, .ref a6, .ref a7])), (a3, .inl (k 0, 16, .inl (fun _ => 0))), (a4, .inl (k 0, 16, .inl (fun _ => 0))), (a5, .inl (k 0, 16, .inl (fun _ => 0))), (a6, .inl (k 0, 16, .inl (fun _ => 0))), (a7, .inl (k 0, 16, .inl (fun _ => 0))), (b2, .inr (1, [.int 0, .ref b3, .ref b4, .ref b5, .ref b6, .ref b7])), (b3, .inl (k 0, 16, .inl (fun _ => 0))), (b4, .inl (k 0, 16, .inl (fun _ => 0))), (b5, .inl (k 0, 16, .inl (fun _ => 0))), (b6, .inl (k 0, 16, .inl (fun _ => 0))), (b7, .inl (k 0, 16, .inl (fun _ => 0)))] := hD
  refine lv_aload_n hx hb dX3_copy_8 rfl (lv_at hl 1 rfl) ?_
  refine va_get (D := D) (ci := 1) (v := .ref b3) (C := RX3) (T := TX3) (N := 6) hx hb hts inX3_copy_X3 hown hK hP 6 rfl rfl 1 (by decide) (hts (.fieldLink RX3 9 "RungMoney$Ladders" "owners" "[I") (by decide +kernel)) (fun _ h9 => h9) rfl dX3_copy_9 ?_
  refine lv_iconst (v := 0) hx hb dX3_copy_12 (by decide) ?_
  refine lv_aload_n hx hb dX3_copy_13 rfl (lv_at hl 0 rfl) ?_
  refine va_get (D := D) (ci := 1) (v := .ref a3) (C := RX3) (T := TX3) (N := 6) hx hb hts inX3_copy_X3 hown hK hP 0 rfl rfl 1 (by decide) (hts (.fieldLink RX3 9 "RungMoney$Ladders" "owners" "[I") (by decide +kernel)) (fun _ h9 => h9) rfl dX3_copy_14 ?_
  refine lv_iconst (v := 0) hx hb dX3_copy_17 (by decide) ?_
  refine lv_bipush (v := 16) hx hb dX3_copy_18 (by decide) ?_
  refine va_copyi hx hb (by rw [hml]; exact hl.1.symm) hown (hts (.methodLink RX3 31 arraycopyName) (by decide +kernel)) (hts (.native arraycopyName) (by decide +kernel)) (hts (.static arraycopyName) (by decide +kernel)) (hts (.initialized "java/lang/System") (by decide +kernel)) hK hP hD hS 7 1 0 0 rfl rfl rfl rfl rfl (by decide) (by decide) (by decide) (by decide) (by decide) (fun _ _ => rfl) (Nat.le_of_ble_eq_true rfl) (by decide +kernel) dX3_copy_20 (fun H locs hP hD hS => ?_)
  have hP : va_P D vwCl [(a2, .inr (1, [.int 0, .ref a3, .ref a4, .ref a5, .ref a6, .ref a7])), (a3, .inl (k 0, 16, .inl (fun _ => 0))), (a4, .inl (k 0, 16, .inl (fun _ => 0))), (a5, .inl (k 0, 16, .inl (fun _ => 0))), (a6, .inl (k 0, 16, .inl (fun _ => 0))), (a7, .inl (k 0, 16, .inl (fun _ => 0))), (b2, .inr (1, [.int 0, .ref b3, .ref b4, .ref b5, .ref b6, .ref b7])), (b3, .inl (k 0, 16, .inl (fun _ => 0))), (b4, .inl (k 0, 16, .inl (fun _ => 0))), (b5, .inl (k 0, 16, .inl (fun _ => 0))), (b6, .inl (k 0, 16, .inl (fun _ => 0))), (b7, .inl (k 0, 16, .inl (fun _ => 0)))] H := by rw [g_cpy0] at hP; exact hP
  have hD : va_D A [(a2, .inr (1, [.int 0, .ref a3, .ref a4, .ref a5, .ref a6, .ref a7])), (a3, .inl (k 0, 16, .inl (fun _ => 0))), (a4, .inl (k 0, 16, .inl (fun _ => 0))), (a5, .inl (k 0, 16, .inl (fun _ => 0))), (a6, .inl (k 0, 16, .inl (fun _ => 0))), (a7, .inl (k 0, 16, .inl (fun _ => 0))), (b2, .inr (1, [.int 0, .ref b3, .ref b4, .ref b5, .ref b6, .ref b7])), (b3, .inl (k 0, 16, .inl (fun _ => 0))), (b4, .inl (k 0, 16, .inl (fun _ => 0))), (b5, .inl (k 0, 16, .inl (fun _ => 0))), (b6, .inl (k 0, 16, .inl (fun _ => 0))), (b7, .inl (k 0, 16, .inl (fun _ => 0)))] := by rw [g_cpy0] at hD; exact hD
  refine lv_aload_n hx hb dX3_copy_23 rfl (lv_at hl 1 rfl) ?_
  refine va_get (D := D) (ci := 1) (v := .ref b4) (C := RX3) (T := TX3) (N := 6) hx hb hts inX3_copy_X3 hown hK hP 6 rfl rfl 2 (by decide) (hts (.fieldLink RX3 15 "RungMoney$Ladders" "lengths" "[I") (by decide +kernel)) (fun _ h9 => h9) rfl dX3_copy_24 ?_
  refine lv_iconst (v := 0) hx hb dX3_copy_27 (by decide) ?_
  refine lv_aload_n hx hb dX3_copy_28 rfl (lv_at hl 0 rfl) ?_
  refine va_get (D := D) (ci := 1) (v := .ref a4) (C := RX3) (T := TX3) (N := 6) hx hb hts inX3_copy_X3 hown hK hP 0 rfl rfl 2 (by decide) (hts (.fieldLink RX3 15 "RungMoney$Ladders" "lengths" "[I") (by decide +kernel)) (fun _ h9 => h9) rfl dX3_copy_29 ?_
  refine lv_iconst (v := 0) hx hb dX3_copy_32 (by decide) ?_
  refine lv_bipush (v := 16) hx hb dX3_copy_33 (by decide) ?_
  refine va_copyi hx hb (by rw [hml]; exact hl.1.symm) hown (hts (.methodLink RX3 31 arraycopyName) (by decide +kernel)) (hts (.native arraycopyName) (by decide +kernel)) (hts (.static arraycopyName) (by decide +kernel)) (hts (.initialized "java/lang/System") (by decide +kernel)) hK hP hD hS 8 2 0 0 rfl rfl rfl rfl rfl (by decide) (by decide) (by decide) (by decide) (by decide) (fun _ _ => rfl) (Nat.le_of_ble_eq_true rfl) (by decide +kernel) dX3_copy_35 (fun H locs hP hD hS => ?_)
  have hP : va_P D vwCl [(a2, .inr (1, [.int 0, .ref a3, .ref a4, .ref a5, .ref a6, .ref a7])), (a3, .inl (k 0, 16, .inl (fun _ => 0))), (a4, .inl (k 0, 16, .inl (fun _ => 0))), (a5, .inl (k 0, 16, .inl (fun _ => 0))), (a6, .inl (k 0, 16, .inl (fun _ => 0))), (a7, .inl (k 0, 16, .inl (fun _ => 0))), (b2, .inr (1, [.int 0, .ref b3, .ref b4, .ref b5, .ref b6, .ref b7])), (b3, .inl (k 0, 16, .inl (fun _ => 0))), (b4, .inl (k 0, 16, .inl (fun _ => 0))), (b5, .inl (k 0, 16, .inl (fun _ => 0))), (b6, .inl (k 0, 16, .inl (fun _ => 0))), (b7, .inl (k 0, 16, .inl (fun _ => 0)))] H := by rw [g_cpy0] at hP; exact hP
  have hD : va_D A [(a2, .inr (1, [.int 0, .ref a3, .ref a4, .ref a5, .ref a6, .ref a7])), (a3, .inl (k 0, 16, .inl (fun _ => 0))), (a4, .inl (k 0, 16, .inl (fun _ => 0))), (a5, .inl (k 0, 16, .inl (fun _ => 0))), (a6, .inl (k 0, 16, .inl (fun _ => 0))), (a7, .inl (k 0, 16, .inl (fun _ => 0))), (b2, .inr (1, [.int 0, .ref b3, .ref b4, .ref b5, .ref b6, .ref b7])), (b3, .inl (k 0, 16, .inl (fun _ => 0))), (b4, .inl (k 0, 16, .inl (fun _ => 0))), (b5, .inl (k 0, 16, .inl (fun _ => 0))), (b6, .inl (k 0, 16, .inl (fun _ => 0))), (b7, .inl (k 0, 16, .inl (fun _ => 0)))] := by rw [g_cpy0] at hD; exact hD
  refine lv_aload_n hx hb dX3_copy_38 rfl (lv_at hl 1 rfl) ?_
  refine va_get (D := D) (ci := 1) (v := .ref b5) (C := RX3) (T := TX3) (N := 6) hx hb hts inX3_copy_X3 hown hK hP 6 rfl rfl 3 (by decide) (hts (.fieldLink RX3 18 "RungMoney$Ladders" "sounds" "[I") (by decide +kernel)) (fun _ h9 => h9) rfl dX3_copy_39 ?_
  refine lv_iconst (v := 0) hx hb dX3_copy_42 (by decide) ?_
  refine lv_aload_n hx hb dX3_copy_43 rfl (lv_at hl 0 rfl) ?_
  refine va_get (D := D) (ci := 1) (v := .ref a5) (C := RX3) (T := TX3) (N := 6) hx hb hts inX3_copy_X3 hown hK hP 0 rfl rfl 3 (by decide) (hts (.fieldLink RX3 18 "RungMoney$Ladders" "sounds" "[I") (by decide +kernel)) (fun _ h9 => h9) rfl dX3_copy_44 ?_
  refine lv_iconst (v := 0) hx hb dX3_copy_47 (by decide) ?_
  refine lv_bipush (v := 16) hx hb dX3_copy_48 (by decide) ?_
  refine va_copyi hx hb (by rw [hml]; exact hl.1.symm) hown (hts (.methodLink RX3 31 arraycopyName) (by decide +kernel)) (hts (.native arraycopyName) (by decide +kernel)) (hts (.static arraycopyName) (by decide +kernel)) (hts (.initialized "java/lang/System") (by decide +kernel)) hK hP hD hS 9 3 0 0 rfl rfl rfl rfl rfl (by decide) (by decide) (by decide) (by decide) (by decide) (fun _ _ => rfl) (Nat.le_of_ble_eq_true rfl) (by decide +kernel) dX3_copy_50 (fun H locs hP hD hS => ?_)
  have hP : va_P D vwCl [(a2, .inr (1, [.int 0, .ref a3, .ref a4, .ref a5, .ref a6, .ref a7])), (a3, .inl (k 0, 16, .inl (fun _ => 0))), (a4, .inl (k 0, 16, .inl (fun _ => 0))), (a5, .inl (k 0, 16, .inl (fun _ => 0))), (a6, .inl (k 0, 16, .inl (fun _ => 0))), (a7, .inl (k 0, 16, .inl (fun _ => 0))), (b2, .inr (1, [.int 0, .ref b3, .ref b4, .ref b5, .ref b6, .ref b7])), (b3, .inl (k 0, 16, .inl (fun _ => 0))), (b4, .inl (k 0, 16, .inl (fun _ => 0))), (b5, .inl (k 0, 16, .inl (fun _ => 0))), (b6, .inl (k 0, 16, .inl (fun _ => 0))), (b7, .inl (k 0, 16, .inl (fun _ => 0)))] H := by rw [g_cpy0] at hP; exact hP
  have hD : va_D A [(a2, .inr (1, [.int 0, .ref a3, .ref a4, .ref a5, .ref a6, .ref a7])), (a3, .inl (k 0, 16, .inl (fun _ => 0))), (a4, .inl (k 0, 16, .inl (fun _ => 0))), (a5, .inl (k 0, 16, .inl (fun _ => 0))), (a6, .inl (k 0, 16, .inl (fun _ => 0))), (a7, .inl (k 0, 16, .inl (fun _ => 0))), (b2, .inr (1, [.int 0, .ref b3, .ref b4, .ref b5, .ref b6, .ref b7])), (b3, .inl (k 0, 16, .inl (fun _ => 0))), (b4, .inl (k 0, 16, .inl (fun _ => 0))), (b5, .inl (k 0, 16, .inl (fun _ => 0))), (b6, .inl (k 0, 16, .inl (fun _ => 0))), (b7, .inl (k 0, 16, .inl (fun _ => 0)))] := by rw [g_cpy0] at hD; exact hD
  refine lv_aload_n hx hb dX3_copy_53 rfl (lv_at hl 1 rfl) ?_
  refine va_get (D := D) (ci := 1) (v := .ref b6) (C := RX3) (T := TX3) (N := 6) hx hb hts inX3_copy_X3 hown hK hP 6 rfl rfl 4 (by decide) (hts (.fieldLink RX3 21 "RungMoney$Ladders" "paints" "[I") (by decide +kernel)) (fun _ h9 => h9) rfl dX3_copy_54 ?_
  refine lv_iconst (v := 0) hx hb dX3_copy_57 (by decide) ?_
  refine lv_aload_n hx hb dX3_copy_58 rfl (lv_at hl 0 rfl) ?_
  refine va_get (D := D) (ci := 1) (v := .ref a6) (C := RX3) (T := TX3) (N := 6) hx hb hts inX3_copy_X3 hown hK hP 0 rfl rfl 4 (by decide) (hts (.fieldLink RX3 21 "RungMoney$Ladders" "paints" "[I") (by decide +kernel)) (fun _ h9 => h9) rfl dX3_copy_59 ?_
  refine lv_iconst (v := 0) hx hb dX3_copy_62 (by decide) ?_
  refine lv_bipush (v := 16) hx hb dX3_copy_63 (by decide) ?_
  refine va_copyi hx hb (by rw [hml]; exact hl.1.symm) hown (hts (.methodLink RX3 31 arraycopyName) (by decide +kernel)) (hts (.native arraycopyName) (by decide +kernel)) (hts (.static arraycopyName) (by decide +kernel)) (hts (.initialized "java/lang/System") (by decide +kernel)) hK hP hD hS 10 4 0 0 rfl rfl rfl rfl rfl (by decide) (by decide) (by decide) (by decide) (by decide) (fun _ _ => rfl) (Nat.le_of_ble_eq_true rfl) (by decide +kernel) dX3_copy_65 (fun H locs hP hD hS => ?_)
  have hP : va_P D vwCl [(a2, .inr (1, [.int 0, .ref a3, .ref a4, .ref a5, .ref a6, .ref a7])), (a3, .inl (k 0, 16, .inl (fun _ => 0))), (a4, .inl (k 0, 16, .inl (fun _ => 0))), (a5, .inl (k 0, 16, .inl (fun _ => 0))), (a6, .inl (k 0, 16, .inl (fun _ => 0))), (a7, .inl (k 0, 16, .inl (fun _ => 0))), (b2, .inr (1, [.int 0, .ref b3, .ref b4, .ref b5, .ref b6, .ref b7])), (b3, .inl (k 0, 16, .inl (fun _ => 0))), (b4, .inl (k 0, 16, .inl (fun _ => 0))), (b5, .inl (k 0, 16, .inl (fun _ => 0))), (b6, .inl (k 0, 16, .inl (fun _ => 0))), (b7, .inl (k 0, 16, .inl (fun _ => 0)))] H := by rw [g_cpy0] at hP; exact hP
  have hD : va_D A [(a2, .inr (1, [.int 0, .ref a3, .ref a4, .ref a5, .ref a6, .ref a7])), (a3, .inl (k 0, 16, .inl (fun _ => 0))), (a4, .inl (k 0, 16, .inl (fun _ => 0))), (a5, .inl (k 0, 16, .inl (fun _ => 0))), (a6, .inl (k 0, 16, .inl (fun _ => 0))), (a7, .inl (k 0, 16, .inl (fun _ => 0))), (b2, .inr (1, [.int 0, .ref b3, .ref b4, .ref b5, .ref b6, .ref b7])), (b3, .inl (k 0, 16, .inl (fun _ => 0))), (b4, .inl (k 0, 16, .inl (fun _ => 0))), (b5, .inl (k 0, 16, .inl (fun _ => 0))), (b6, .inl (k 0, 16, .inl (fun _ => 0))), (b7, .inl (k 0, 16, .inl (fun _ => 0)))] := by rw [g_cpy0] at hD; exact hD
  refine lv_aload_n hx hb dX3_copy_68 rfl (lv_at hl 1 rfl) ?_
  refine va_get (D := D) (ci := 1) (v := .ref b7) (C := RX3) (T := TX3) (N := 6) hx hb hts inX3_copy_X3 hown hK hP 6 rfl rfl 5 (by decide) (hts (.fieldLink RX3 24 "RungMoney$Ladders" "hands" "[I") (by decide +kernel)) (fun _ h9 => h9) rfl dX3_copy_69 ?_
  refine lv_iconst (v := 0) hx hb dX3_copy_72 (by decide) ?_
  refine lv_aload_n hx hb dX3_copy_73 rfl (lv_at hl 0 rfl) ?_
  refine va_get (D := D) (ci := 1) (v := .ref a7) (C := RX3) (T := TX3) (N := 6) hx hb hts inX3_copy_X3 hown hK hP 0 rfl rfl 5 (by decide) (hts (.fieldLink RX3 24 "RungMoney$Ladders" "hands" "[I") (by decide +kernel)) (fun _ h9 => h9) rfl dX3_copy_74 ?_
  refine lv_iconst (v := 0) hx hb dX3_copy_77 (by decide) ?_
  refine lv_bipush (v := 16) hx hb dX3_copy_78 (by decide) ?_
  refine va_copyi hx hb (by rw [hml]; exact hl.1.symm) hown (hts (.methodLink RX3 31 arraycopyName) (by decide +kernel)) (hts (.native arraycopyName) (by decide +kernel)) (hts (.static arraycopyName) (by decide +kernel)) (hts (.initialized "java/lang/System") (by decide +kernel)) hK hP hD hS 11 5 0 0 rfl rfl rfl rfl rfl (by decide) (by decide) (by decide) (by decide) (by decide) (fun _ _ => rfl) (Nat.le_of_ble_eq_true rfl) (by decide +kernel) dX3_copy_80 (fun H locs hP hD hS => ?_)
  have hP : va_P D vwCl [(a2, .inr (1, [.int 0, .ref a3, .ref a4, .ref a5, .ref a6, .ref a7])), (a3, .inl (k 0, 16, .inl (fun _ => 0))), (a4, .inl (k 0, 16, .inl (fun _ => 0))), (a5, .inl (k 0, 16, .inl (fun _ => 0))), (a6, .inl (k 0, 16, .inl (fun _ => 0))), (a7, .inl (k 0, 16, .inl (fun _ => 0))), (b2, .inr (1, [.int 0, .ref b3, .ref b4, .ref b5, .ref b6, .ref b7])), (b3, .inl (k 0, 16, .inl (fun _ => 0))), (b4, .inl (k 0, 16, .inl (fun _ => 0))), (b5, .inl (k 0, 16, .inl (fun _ => 0))), (b6, .inl (k 0, 16, .inl (fun _ => 0))), (b7, .inl (k 0, 16, .inl (fun _ => 0)))] H := by rw [g_cpy0] at hP; exact hP
  have hD : va_D A [(a2, .inr (1, [.int 0, .ref a3, .ref a4, .ref a5, .ref a6, .ref a7])), (a3, .inl (k 0, 16, .inl (fun _ => 0))), (a4, .inl (k 0, 16, .inl (fun _ => 0))), (a5, .inl (k 0, 16, .inl (fun _ => 0))), (a6, .inl (k 0, 16, .inl (fun _ => 0))), (a7, .inl (k 0, 16, .inl (fun _ => 0))), (b2, .inr (1, [.int 0, .ref b3, .ref b4, .ref b5, .ref b6, .ref b7])), (b3, .inl (k 0, 16, .inl (fun _ => 0))), (b4, .inl (k 0, 16, .inl (fun _ => 0))), (b5, .inl (k 0, 16, .inl (fun _ => 0))), (b6, .inl (k 0, 16, .inl (fun _ => 0))), (b7, .inl (k 0, 16, .inl (fun _ => 0)))] := by rw [g_cpy0] at hD; exact hD
  have hP := hP.sub (ws' := [(a2, .inr (1, [.int 0, .ref a3, .ref a4, .ref a5, .ref a6, .ref a7])), (a3, .inl (k 0, 16, .inl (fun _ => 0))), (a4, .inl (k 0, 16, .inl (fun _ => 0))), (a5, .inl (k 0, 16, .inl (fun _ => 0))), (a6, .inl (k 0, 16, .inl (fun _ => 0))), (a7, .inl (k 0, 16, .inl (fun _ => 0))), (b2, .inr (1, [.int 0, .ref b3, .ref b4, .ref b5, .ref b6, .ref b7])), (b3, .inl (k 0, 16, .inl (fun _ => 0))), (b4, .inl (k 0, 16, .inl (fun _ => 0))), (b5, .inl (k 0, 16, .inl (fun _ => 0))), (b6, .inl (k 0, 16, .inl (fun _ => 0))), (b7, .inl (k 0, 16, .inl (fun _ => 0)))]) [0, 1, 2, 3, 4, 5, 6, 7, 8, 9, 10, 11] rfl
  have hD := hD.sub (ws' := [(a2, .inr (1, [.int 0, .ref a3, .ref a4, .ref a5, .ref a6, .ref a7])), (a3, .inl (k 0, 16, .inl (fun _ => 0))), (a4, .inl (k 0, 16, .inl (fun _ => 0))), (a5, .inl (k 0, 16, .inl (fun _ => 0))), (a6, .inl (k 0, 16, .inl (fun _ => 0))), (a7, .inl (k 0, 16, .inl (fun _ => 0))), (b2, .inr (1, [.int 0, .ref b3, .ref b4, .ref b5, .ref b6, .ref b7])), (b3, .inl (k 0, 16, .inl (fun _ => 0))), (b4, .inl (k 0, 16, .inl (fun _ => 0))), (b5, .inl (k 0, 16, .inl (fun _ => 0))), (b6, .inl (k 0, 16, .inl (fun _ => 0))), (b7, .inl (k 0, 16, .inl (fun _ => 0)))]) [0, 1, 2, 3, 4, 5, 6, 7, 8, 9, 10, 11] (by decide) rfl
  exact g_vret hx hb hr hlocks hK (fun _ => 0) hP hD hS dX3_copy_83 ⟨Nat.le_of_ble_eq_true rfl, Nat.le_of_ble_eq_true rfl⟩

/-! ===== the reference's image and restore: tables, contracts, paths ===== -/
def xi_X13_image : List (Nat × Nat × Instr) := [(0, 1, .aload_n 0), (1, 1, .iconst 0), (2, 3, .putfield 1), (5, 1, .iload_n 1), (6, 1, .iconst 0), (7, 1, .iconst 1), (8, 3, .invokestatic 174), (11, 3, .ifCond .ne 5), (14, 1, .iconst 0), (15, 1, .ireturn), (16, 1, .iconst 0), (17, 1, .istore_n 2), (18, 1, .iload_n 2), (19, 3, .sipush 874), (22, 3, .if_icmp .ge 27), (25, 1, .aload_n 0), (26, 3, .getfield 75), (29, 3, .sipush 874), (32, 1, .iload_n 1), (33, 1, .imul), (34, 1, .iload_n 2), (35, 1, .iadd), (36, 1, .aload_n 0), (37, 3, .getfield 33), (40, 1, .iload_n 2), (41, 1, .iaload), (42, 1, .iastore), (43, 3, .iinc 2 1), (46, 3, .goto (-28)), (49, 1, .iconst 0), (50, 1, .istore_n 2), (51, 1, .iload_n 2), (52, 2, .bipush 6), (54, 3, .if_icmp .ge 26), (57, 1, .aload_n 0), (58, 3, .getfield 78), (61, 2, .bipush 6), (63, 1, .iload_n 1), (64, 1, .imul), (65, 1, .iload_n 2), (66, 1, .iadd), (67, 1, .aload_n 0), (68, 3, .getfield 43), (71, 1, .iload_n 2), (72, 1, .laload), (73, 1, .lastore), (74, 3, .iinc 2 1), (77, 3, .goto (-26)), (80, 1, .aload_n 0), (81, 3, .getfield 81), (84, 1, .iload_n 1), (85, 1, .iconst 1), (86, 1, .bastore), (87, 1, .iconst 1), (88, 1, .ireturn)]
def xg_X13_image : zf_ft := [(75, 11, 44, .inl (0, 0)), (33, 11, 6, .inl (0, 0)), (78, 11, 45, .inl (0, 0)), (43, 11, 9, .inl (0, 0)), (81, 11, 46, .inl (0, 0))]
def xp_X13_image : zf_ft := [(1, 11, 0, .inl ((-2147483648), 2147483647))]
def xv_X13_image : List (Nat × Nat × xe_F) := []
def xt_X13_image : List (Nat × Nat × xe_F) := [(174, 3, fx_X13_isIn)]
abbrev xr_X13_image := xe_run xGT xSC xRF 3 xg_X13_image xp_X13_image [] [] (xv_X13_image) xt_X13_image xi_X13_image
def fx_X13_image : xe_F := fun us hp v hp' => (us.map fun v => v.category).sum ≤ 3 ∧ xe_rt (some .boolean) v ∧ (∃ ar, us = ar ++ [.ref 18]) ∧ ∃ n, xr_X13_image n (0, xe_ag 0 us.reverse, [], hp) v hp'
theorem mk_X13_image {a1 : Int32} {hp hp' : xe_H} {v : Option Value} (hr : xe_rt (some .boolean) v) (h : ∃ n, xr_X13_image n (0, [(0, .ref 18), (1, .int a1)], [], hp) v hp') : fx_X13_image [.int a1, .ref 18] hp v hp' := ⟨Nat.le_of_ble_eq_true rfl, hr, ⟨[.int a1], rfl⟩, h⟩
theorem hx_X13_image : ∀ us hp v hp', fx_X13_image us hp v hp' → (us.map fun v => v.category).sum ≤ 3 ∧ xe_rt (some .boolean) v ∧ ∃ n, xr_X13_image n (0, xe_ag 0 us.reverse, [], hp) v hp' := fun us hp v hp' h => ⟨h.1, h.2.1, h.2.2.2⟩
theorem fr_X13_image : ∀ us hp v hp', fx_X13_image us hp v hp' → ∃ ar, us = ar ++ [.ref 18] := fun us hp v hp' h => h.2.2.1
set_option maxRecDepth 100000 in
set_option maxHeartbeats 4000000 in
theorem kx_X13_image (l : Launch) (D : va_G) (k : Nat → ClassId) (B0 : Nat) (ad : Nat → Nat) (al sw : Nat) : xe_Con l yX13_image (zw yX13_image cX13_image 3 (some .boolean)) ({ frames := 1, cells := 0, slots := 0, locals := 22 }) D k ad (zEx B0 ad al sw) xGT xSC xRF (fx_X13_image) := by
  have hEx := zEx_ok B0 ad al sw
  refine xe_mk (cc := cX13_image) (nL := 3) (ret := (some .boolean)) (fg := xg_X13_image) (fp := xp_X13_image) (sg := []) (lc := []) (cv := xv_X13_image) (cs := xt_X13_image) (ins := xi_X13_image) (by decide) rfl hEx (by decide +kernel) hx_X13_image ?_
  intro p e s m args below meth c Q Sg w0 A θ S hK hE hAB hA hth
  refine ⟨?_, ?_, ?_, ?_, ?_, ?_⟩
  · exact zf_ac ((fun H locs ws a q0 fs v rest pc ls hP he hv hdg kk => va_get (D := D) (ci := 11) (C := RX13) (T := TX13) (N := 47) (own := RX13) S.1 S.2.1 S.2.2.2.2 (zg_in inW_X13) S.2.2.2.1 hK hP q0 he rfl 44 (by decide) (S.2.2.2.2 (.fieldLink RX13 75 "RungMoneyModel" "kept" "[I") (List.mem_cons_of_mem _ zw_1392)) (fun _ h9 => h9) hv hdg kk)) (zf_ac ((fun H locs ws a q0 fs v rest pc ls hP he hv hdg kk => va_get (D := D) (ci := 11) (C := RX13) (T := TX13) (N := 47) (own := RX13) S.1 S.2.1 S.2.2.2.2 (zg_in inW_X13) S.2.2.2.1 hK hP q0 he rfl 6 (by decide) (S.2.2.2.2 (.fieldLink RX13 33 "RungMoneyModel" "s" "[I") (List.mem_cons_of_mem _ zw_1354)) (fun _ h9 => h9) hv hdg kk)) (zf_ac ((fun H locs ws a q0 fs v rest pc ls hP he hv hdg kk => va_get (D := D) (ci := 11) (C := RX13) (T := TX13) (N := 47) (own := RX13) S.1 S.2.1 S.2.2.2.2 (zg_in inW_X13) S.2.2.2.1 hK hP q0 he rfl 45 (by decide) (S.2.2.2.2 (.fieldLink RX13 78 "RungMoneyModel" "namesKept" "[J") (List.mem_cons_of_mem _ zw_1393)) (fun _ h9 => h9) hv hdg kk)) (zf_ac ((fun H locs ws a q0 fs v rest pc ls hP he hv hdg kk => va_get (D := D) (ci := 11) (C := RX13) (T := TX13) (N := 47) (own := RX13) S.1 S.2.1 S.2.2.2.2 (zg_in inW_X13) S.2.2.2.1 hK hP q0 he rfl 9 (by decide) (S.2.2.2.2 (.fieldLink RX13 43 "RungMoneyModel" "names" "[J") (List.mem_cons_of_mem _ zw_1357)) (fun _ h9 => h9) hv hdg kk)) (zf_ac ((fun H locs ws a q0 fs v rest pc ls hP he hv hdg kk => va_get (D := D) (ci := 11) (C := RX13) (T := TX13) (N := 47) (own := RX13) S.1 S.2.1 S.2.2.2.2 (zg_in inW_X13) S.2.2.2.1 hK hP q0 he rfl 46 (by decide) (S.2.2.2.2 (.fieldLink RX13 81 "RungMoneyModel" "areKept" "[Z") (List.mem_cons_of_mem _ zw_1394)) (fun _ h9 => h9) hv hdg kk)) zf_an))))
  · exact zf_ac ((fun H locs ws a q0 fs v rest pc ls hP hD hS he hl hv hdg kk => by obtain ⟨x, rfl, h1, h2⟩ := hv; exact va_put (D := D) (ci := 11) (v := .int x) (ty := .int) (C := RX13) (T := TX13) (N := 47) (own := RX13) S.1 S.2.1 S.2.2.2.2 (zg_in inW_X13) tyX13 tyX13_ok nmX13 S.2.2.2.1 hK hP hD hS q0 he rfl 0 (by decide) (S.2.2.2.2 (.fieldLink RX13 1 "RungMoneyModel" "thrown" "I") (List.mem_cons_of_mem _ zw_1348)) (fun _ h9 => h9) rfl (by decide +kernel) rfl rfl hl hdg kk)) zf_an
  · exact xe_n2
  · exact xe_n3
  · exact xe_n4
  · exact xe_a4 (xe_crS S hEx hE hAB hA hK hth (kx_X13_isIn l D k B0 ad al sw) (va_cwS 3 S.2.2.2.2 (zg_S zw_1561 zw_1562 zw_109 zw_1563) rfl rfl rfl (by decide +kernel) ⟨(Nat.le_of_ble_eq_true rfl), (Nat.le_of_ble_eq_true rfl)⟩) ⟨(Nat.le_of_ble_eq_true rfl), (Nat.le_of_ble_eq_true rfl)⟩) xe_n4
set_option maxRecDepth 100000 in
theorem pt_X13_image_0 {a1 : Int32} {I I1 : Nat → Nat → Int32} {L L1 : Nat → Nat → Int64} (c1 : fx_X13_isIn [.int (1 : Int32), .int (0 : Int32), .int a1] ((xu I 18 0 (0 : Int32)), L) (some (.int 1)) (I1, L1)) {v9 : Option Value} {hp9 : xe_H} (r9 : ∃ n, xr_X13_image n (18, [(0, .ref 18), (1, .int a1), (2, .int (0 : Int32))], [], (I1, L1)) v9 hp9) : ∃ n, xr_X13_image n (0, [(0, .ref 18), (1, .int a1)], [], (I, L)) v9 hp9 := by
  refine xe_go 5 (s' := (8, [(0, .ref 18), (1, .int a1)], [.int (1 : Int32), .int (0 : Int32), .int a1], ((xu I 18 0 (0 : Int32)), L))) rfl ?_
  refine xe_sta (n := 3) (f := fx_X13_isIn) rfl (Nat.le_of_ble_eq_true rfl) (List.mem_of_getElem? (i := 0) rfl) (Nat.le_of_ble_eq_true rfl) c1 ?_
  refine xe_go 2 (s' := (18, [(0, .ref 18), (1, .int a1), (2, .int (0 : Int32))], [], (I1, L1))) rfl ?_
  exact xe_nrm [0, 1, 2] rfl r9
set_option maxRecDepth 100000 in
theorem pt_X13_image_1 {a1 : Int32} {I I1 : Nat → Nat → Int32} {L L1 : Nat → Nat → Int64} (c1 : fx_X13_isIn [.int (1 : Int32), .int (0 : Int32), .int a1] ((xu I 18 0 (0 : Int32)), L) (some (.int 0)) (I1, L1)) : ∃ n, xr_X13_image n (0, [(0, .ref 18), (1, .int a1)], [], (I, L)) (some (.int (0 : Int32))) (I1, L1) := by
  refine xe_go 5 (s' := (8, [(0, .ref 18), (1, .int a1)], [.int (1 : Int32), .int (0 : Int32), .int a1], ((xu I 18 0 (0 : Int32)), L))) rfl ?_
  refine xe_sta (n := 3) (f := fx_X13_isIn) rfl (Nat.le_of_ble_eq_true rfl) (List.mem_of_getElem? (i := 0) rfl) (Nat.le_of_ble_eq_true rfl) c1 ?_
  refine xe_go 1 (s' := (15, [(0, .ref 18), (1, .int a1)], [.int (0 : Int32)], (I1, L1))) rfl ?_
  exact xe_end rfl rfl rfl
set_option maxRecDepth 100000 in
theorem pt_X13_image_2 {l1 l2 : Int32} {I : Nat → Nat → Int32} {L : Nat → Nat → Int64} (h1 : (xe_cmp .ge l2 (874 : Int32)) = true) {v9 : Option Value} {hp9 : xe_H} (r9 : ∃ n, xr_X13_image n (51, [(0, .ref 18), (1, .int l1), (2, .int (0 : Int32))], [], (I, L)) v9 hp9) : ∃ n, xr_X13_image n (18, [(0, .ref 18), (1, .int l1), (2, .int l2)], [], (I, L)) v9 hp9 := by
  refine xe_bT 2 (A := (49, [(0, .ref 18), (1, .int l1), (2, .int l2)], [], (I, L))) (B := (25, [(0, .ref 18), (1, .int l1), (2, .int l2)], [], (I, L))) h1 rfl ?_
  refine xe_go 1 (s' := (51, [(0, .ref 18), (1, .int l1), (2, .int (0 : Int32))], [], (I, L))) rfl ?_
  exact xe_nrm [0, 1, 2] rfl r9
set_option maxRecDepth 100000 in
theorem pt_X13_image_3 {l1 l2 : Int32} {I : Nat → Nat → Int32} {L : Nat → Nat → Int64} (h1 : (xe_cmp .ge l2 (874 : Int32)) = false) (h2 : xe_ib l2 874 = true) (h3 : xe_ib (((874 : Int32) * l1) + l2) 1748 = true) {v9 : Option Value} {hp9 : xe_H} (r9 : ∃ n, xr_X13_image n (18, [(0, .ref 18), (1, .int l1), (2, .int (l2 + (1 : Int32)))], [], ((xu I 33 (((((874 : Int32) * l1) + l2)).toInt.toNat) (I 20 ((l2).toInt.toNat))), L)) v9 hp9) : ∃ n, xr_X13_image n (18, [(0, .ref 18), (1, .int l1), (2, .int l2)], [], (I, L)) v9 hp9 := by
  refine xe_bF 2 (A := (49, [(0, .ref 18), (1, .int l1), (2, .int l2)], [], (I, L))) (B := (25, [(0, .ref 18), (1, .int l1), (2, .int l2)], [], (I, L))) h1 rfl ?_
  refine xe_ar 10 (A := (42, [(0, .ref 18), (1, .int l1), (2, .int l2)], [.int (I 20 ((l2).toInt.toNat)), .int (((874 : Int32) * l1) + l2), .ref 33], (I, L))) h2 rfl ?_
  refine xe_ar 0 (A := (43, [(0, .ref 18), (1, .int l1), (2, .int l2)], [], ((xu I 33 (((((874 : Int32) * l1) + l2)).toInt.toNat) (I 20 ((l2).toInt.toNat))), L))) h3 rfl ?_
  refine xe_go 1 (s' := (18, [(0, .ref 18), (1, .int l1), (2, .int (l2 + (1 : Int32)))], [], ((xu I 33 (((((874 : Int32) * l1) + l2)).toInt.toNat) (I 20 ((l2).toInt.toNat))), L))) rfl ?_
  exact xe_nrm [0, 1, 2] rfl r9
set_option maxRecDepth 100000 in
theorem pt_X13_image_4 {l1 l2 : Int32} {I : Nat → Nat → Int32} {L : Nat → Nat → Int64} (h1 : (xe_cmp .ge l2 (6 : Int32)) = true) (h2 : (xe_ib l1 2 && xe_by (1 : Int32)) = true) : ∃ n, xr_X13_image n (51, [(0, .ref 18), (1, .int l1), (2, .int l2)], [], (I, L)) (some (.int (1 : Int32))) ((xu I 35 ((l1).toInt.toNat) (1 : Int32)), L) := by
  refine xe_bT 2 (A := (80, [(0, .ref 18), (1, .int l1), (2, .int l2)], [], (I, L))) (B := (57, [(0, .ref 18), (1, .int l1), (2, .int l2)], [], (I, L))) h1 rfl ?_
  refine xe_ar 4 (A := (87, [(0, .ref 18), (1, .int l1), (2, .int l2)], [], ((xu I 35 ((l1).toInt.toNat) (1 : Int32)), L))) h2 rfl ?_
  refine xe_go 0 (s' := (88, [(0, .ref 18), (1, .int l1), (2, .int l2)], [.int (1 : Int32)], ((xu I 35 ((l1).toInt.toNat) (1 : Int32)), L))) rfl ?_
  exact xe_end rfl rfl rfl
set_option maxRecDepth 100000 in
theorem pt_X13_image_5 {l1 l2 : Int32} {I : Nat → Nat → Int32} {L : Nat → Nat → Int64} (h1 : (xe_cmp .ge l2 (6 : Int32)) = false) (h2 : xe_ib l2 12 = true) (h3 : xe_ib (((6 : Int32) * l1) + l2) 12 = true) {v9 : Option Value} {hp9 : xe_H} (r9 : ∃ n, xr_X13_image n (51, [(0, .ref 18), (1, .int l1), (2, .int (l2 + (1 : Int32)))], [], (I, (xul L 34 (((((6 : Int32) * l1) + l2)).toInt.toNat) (L 23 ((l2).toInt.toNat))))) v9 hp9) : ∃ n, xr_X13_image n (51, [(0, .ref 18), (1, .int l1), (2, .int l2)], [], (I, L)) v9 hp9 := by
  refine xe_bF 2 (A := (80, [(0, .ref 18), (1, .int l1), (2, .int l2)], [], (I, L))) (B := (57, [(0, .ref 18), (1, .int l1), (2, .int l2)], [], (I, L))) h1 rfl ?_
  refine xe_ar 10 (A := (73, [(0, .ref 18), (1, .int l1), (2, .int l2)], [.long (L 23 ((l2).toInt.toNat)), .int (((6 : Int32) * l1) + l2), .ref 34], (I, L))) h2 rfl ?_
  refine xe_ar 0 (A := (74, [(0, .ref 18), (1, .int l1), (2, .int l2)], [], (I, (xul L 34 (((((6 : Int32) * l1) + l2)).toInt.toNat) (L 23 ((l2).toInt.toNat)))))) h3 rfl ?_
  refine xe_go 1 (s' := (51, [(0, .ref 18), (1, .int l1), (2, .int (l2 + (1 : Int32)))], [], (I, (xul L 34 (((((6 : Int32) * l1) + l2)).toInt.toNat) (L 23 ((l2).toInt.toNat)))))) rfl ?_
  exact xe_nrm [0, 1, 2] rfl r9
def xi_X13_restore : List (Nat × Nat × Instr) := [(0, 1, .aload_n 0), (1, 1, .iconst 0), (2, 3, .putfield 1), (5, 1, .iload_n 1), (6, 1, .iconst 0), (7, 1, .iconst 1), (8, 3, .invokestatic 174), (11, 3, .ifCond .eq 12), (14, 1, .aload_n 0), (15, 3, .getfield 81), (18, 1, .iload_n 1), (19, 1, .baload), (20, 3, .ifCond .ne 5), (23, 1, .iconst 0), (24, 1, .ireturn), (25, 1, .iconst 0), (26, 1, .istore_n 2), (27, 1, .iload_n 2), (28, 3, .sipush 874), (31, 3, .if_icmp .ge 27), (34, 1, .aload_n 0), (35, 3, .getfield 33), (38, 1, .iload_n 2), (39, 1, .aload_n 0), (40, 3, .getfield 75), (43, 3, .sipush 874), (46, 1, .iload_n 1), (47, 1, .imul), (48, 1, .iload_n 2), (49, 1, .iadd), (50, 1, .iaload), (51, 1, .iastore), (52, 3, .iinc 2 1), (55, 3, .goto (-28)), (58, 1, .iconst 0), (59, 1, .istore_n 2), (60, 1, .iload_n 2), (61, 2, .bipush 6), (63, 3, .if_icmp .ge 26), (66, 1, .aload_n 0), (67, 3, .getfield 43), (70, 1, .iload_n 2), (71, 1, .aload_n 0), (72, 3, .getfield 78), (75, 2, .bipush 6), (77, 1, .iload_n 1), (78, 1, .imul), (79, 1, .iload_n 2), (80, 1, .iadd), (81, 1, .laload), (82, 1, .lastore), (83, 3, .iinc 2 1), (86, 3, .goto (-26)), (89, 1, .aload_n 0), (90, 1, .iconst 0), (91, 3, .putfield 235), (94, 1, .iconst 1), (95, 1, .ireturn)]
def xg_X13_restore : zf_ft := [(81, 11, 46, .inl (0, 0)), (33, 11, 6, .inl (0, 0)), (75, 11, 44, .inl (0, 0)), (43, 11, 9, .inl (0, 0)), (78, 11, 45, .inl (0, 0))]
def xp_X13_restore : zf_ft := [(1, 11, 0, .inl ((-2147483648), 2147483647)), (235, 11, 25, .inl ((-2147483648), 2147483647))]
def xv_X13_restore : List (Nat × Nat × xe_F) := []
def xt_X13_restore : List (Nat × Nat × xe_F) := [(174, 3, fx_X13_isIn)]
abbrev xr_X13_restore := xe_run xGT xSC xRF 3 xg_X13_restore xp_X13_restore [] [] (xv_X13_restore) xt_X13_restore xi_X13_restore
def fx_X13_restore : xe_F := fun us hp v hp' => (us.map fun v => v.category).sum ≤ 3 ∧ xe_rt (some .boolean) v ∧ (∃ ar, us = ar ++ [.ref 18]) ∧ ∃ n, xr_X13_restore n (0, xe_ag 0 us.reverse, [], hp) v hp'
theorem mk_X13_restore {a1 : Int32} {hp hp' : xe_H} {v : Option Value} (hr : xe_rt (some .boolean) v) (h : ∃ n, xr_X13_restore n (0, [(0, .ref 18), (1, .int a1)], [], hp) v hp') : fx_X13_restore [.int a1, .ref 18] hp v hp' := ⟨Nat.le_of_ble_eq_true rfl, hr, ⟨[.int a1], rfl⟩, h⟩
theorem hx_X13_restore : ∀ us hp v hp', fx_X13_restore us hp v hp' → (us.map fun v => v.category).sum ≤ 3 ∧ xe_rt (some .boolean) v ∧ ∃ n, xr_X13_restore n (0, xe_ag 0 us.reverse, [], hp) v hp' := fun us hp v hp' h => ⟨h.1, h.2.1, h.2.2.2⟩
theorem fr_X13_restore : ∀ us hp v hp', fx_X13_restore us hp v hp' → ∃ ar, us = ar ++ [.ref 18] := fun us hp v hp' h => h.2.2.1
set_option maxRecDepth 100000 in
set_option maxHeartbeats 4000000 in
theorem kx_X13_restore (l : Launch) (D : va_G) (k : Nat → ClassId) (B0 : Nat) (ad : Nat → Nat) (al sw : Nat) : xe_Con l yX13_restore (zw yX13_restore cX13_restore 3 (some .boolean)) ({ frames := 1, cells := 0, slots := 0, locals := 22 }) D k ad (zEx B0 ad al sw) xGT xSC xRF (fx_X13_restore) := by
  have hEx := zEx_ok B0 ad al sw
  refine xe_mk (cc := cX13_restore) (nL := 3) (ret := (some .boolean)) (fg := xg_X13_restore) (fp := xp_X13_restore) (sg := []) (lc := []) (cv := xv_X13_restore) (cs := xt_X13_restore) (ins := xi_X13_restore) (by decide) rfl hEx (by decide +kernel) hx_X13_restore ?_
  intro p e s m args below meth c Q Sg w0 A θ S hK hE hAB hA hth
  refine ⟨?_, ?_, ?_, ?_, ?_, ?_⟩
  · exact zf_ac ((fun H locs ws a q0 fs v rest pc ls hP he hv hdg kk => va_get (D := D) (ci := 11) (C := RX13) (T := TX13) (N := 47) (own := RX13) S.1 S.2.1 S.2.2.2.2 (zg_in inW_X13) S.2.2.2.1 hK hP q0 he rfl 46 (by decide) (S.2.2.2.2 (.fieldLink RX13 81 "RungMoneyModel" "areKept" "[Z") (List.mem_cons_of_mem _ zw_1394)) (fun _ h9 => h9) hv hdg kk)) (zf_ac ((fun H locs ws a q0 fs v rest pc ls hP he hv hdg kk => va_get (D := D) (ci := 11) (C := RX13) (T := TX13) (N := 47) (own := RX13) S.1 S.2.1 S.2.2.2.2 (zg_in inW_X13) S.2.2.2.1 hK hP q0 he rfl 6 (by decide) (S.2.2.2.2 (.fieldLink RX13 33 "RungMoneyModel" "s" "[I") (List.mem_cons_of_mem _ zw_1354)) (fun _ h9 => h9) hv hdg kk)) (zf_ac ((fun H locs ws a q0 fs v rest pc ls hP he hv hdg kk => va_get (D := D) (ci := 11) (C := RX13) (T := TX13) (N := 47) (own := RX13) S.1 S.2.1 S.2.2.2.2 (zg_in inW_X13) S.2.2.2.1 hK hP q0 he rfl 44 (by decide) (S.2.2.2.2 (.fieldLink RX13 75 "RungMoneyModel" "kept" "[I") (List.mem_cons_of_mem _ zw_1392)) (fun _ h9 => h9) hv hdg kk)) (zf_ac ((fun H locs ws a q0 fs v rest pc ls hP he hv hdg kk => va_get (D := D) (ci := 11) (C := RX13) (T := TX13) (N := 47) (own := RX13) S.1 S.2.1 S.2.2.2.2 (zg_in inW_X13) S.2.2.2.1 hK hP q0 he rfl 9 (by decide) (S.2.2.2.2 (.fieldLink RX13 43 "RungMoneyModel" "names" "[J") (List.mem_cons_of_mem _ zw_1357)) (fun _ h9 => h9) hv hdg kk)) (zf_ac ((fun H locs ws a q0 fs v rest pc ls hP he hv hdg kk => va_get (D := D) (ci := 11) (C := RX13) (T := TX13) (N := 47) (own := RX13) S.1 S.2.1 S.2.2.2.2 (zg_in inW_X13) S.2.2.2.1 hK hP q0 he rfl 45 (by decide) (S.2.2.2.2 (.fieldLink RX13 78 "RungMoneyModel" "namesKept" "[J") (List.mem_cons_of_mem _ zw_1393)) (fun _ h9 => h9) hv hdg kk)) zf_an))))
  · exact zf_ac ((fun H locs ws a q0 fs v rest pc ls hP hD hS he hl hv hdg kk => by obtain ⟨x, rfl, h1, h2⟩ := hv; exact va_put (D := D) (ci := 11) (v := .int x) (ty := .int) (C := RX13) (T := TX13) (N := 47) (own := RX13) S.1 S.2.1 S.2.2.2.2 (zg_in inW_X13) tyX13 tyX13_ok nmX13 S.2.2.2.1 hK hP hD hS q0 he rfl 0 (by decide) (S.2.2.2.2 (.fieldLink RX13 1 "RungMoneyModel" "thrown" "I") (List.mem_cons_of_mem _ zw_1348)) (fun _ h9 => h9) rfl (by decide +kernel) rfl rfl hl hdg kk)) (zf_ac ((fun H locs ws a q0 fs v rest pc ls hP hD hS he hl hv hdg kk => by obtain ⟨x, rfl, h1, h2⟩ := hv; exact va_put (D := D) (ci := 11) (v := .int x) (ty := .int) (C := RX13) (T := TX13) (N := 47) (own := RX13) S.1 S.2.1 S.2.2.2.2 (zg_in inW_X13) tyX13 tyX13_ok nmX13 S.2.2.2.1 hK hP hD hS q0 he rfl 25 (by decide) (S.2.2.2.2 (.fieldLink RX13 235 "RungMoneyModel" "undoMany" "I") (List.mem_cons_of_mem _ zw_1373)) (fun _ h9 => h9) rfl (by decide +kernel) rfl rfl hl hdg kk)) zf_an)
  · exact xe_n2
  · exact xe_n3
  · exact xe_n4
  · exact xe_a4 (xe_crS S hEx hE hAB hA hK hth (kx_X13_isIn l D k B0 ad al sw) (va_cwS 3 S.2.2.2.2 (zg_S zw_1561 zw_1562 zw_109 zw_1563) rfl rfl rfl (by decide +kernel) ⟨(Nat.le_of_ble_eq_true rfl), (Nat.le_of_ble_eq_true rfl)⟩) ⟨(Nat.le_of_ble_eq_true rfl), (Nat.le_of_ble_eq_true rfl)⟩) xe_n4
set_option maxRecDepth 100000 in
theorem pt_X13_restore_0 {a1 : Int32} {I I1 : Nat → Nat → Int32} {L L1 : Nat → Nat → Int64} (c1 : fx_X13_isIn [.int (1 : Int32), .int (0 : Int32), .int a1] ((xu I 18 0 (0 : Int32)), L) (some (.int 1)) (I1, L1)) (h1 : xe_ib a1 2 = true) (h2 : (xe_cmp .ne (I1 35 ((a1).toInt.toNat)) 0) = true) {v9 : Option Value} {hp9 : xe_H} (r9 : ∃ n, xr_X13_restore n (27, [(0, .ref 18), (1, .int a1), (2, .int (0 : Int32))], [], (I1, L1)) v9 hp9) : ∃ n, xr_X13_restore n (0, [(0, .ref 18), (1, .int a1)], [], (I, L)) v9 hp9 := by
  refine xe_go 5 (s' := (8, [(0, .ref 18), (1, .int a1)], [.int (1 : Int32), .int (0 : Int32), .int a1], ((xu I 18 0 (0 : Int32)), L))) rfl ?_
  refine xe_sta (n := 3) (f := fx_X13_isIn) rfl (Nat.le_of_ble_eq_true rfl) (List.mem_of_getElem? (i := 0) rfl) (Nat.le_of_ble_eq_true rfl) c1 ?_
  refine xe_ar 4 (A := (20, [(0, .ref 18), (1, .int a1)], [.int (I1 35 ((a1).toInt.toNat))], (I1, L1))) h1 rfl ?_
  refine xe_bT 0 (A := (25, [(0, .ref 18), (1, .int a1)], [], (I1, L1))) (B := (23, [(0, .ref 18), (1, .int a1)], [], (I1, L1))) h2 rfl ?_
  refine xe_go 1 (s' := (27, [(0, .ref 18), (1, .int a1), (2, .int (0 : Int32))], [], (I1, L1))) rfl ?_
  exact xe_nrm [0, 1, 2] rfl r9
set_option maxRecDepth 100000 in
theorem pt_X13_restore_1 {a1 : Int32} {I I1 : Nat → Nat → Int32} {L L1 : Nat → Nat → Int64} (c1 : fx_X13_isIn [.int (1 : Int32), .int (0 : Int32), .int a1] ((xu I 18 0 (0 : Int32)), L) (some (.int 1)) (I1, L1)) (h1 : xe_ib a1 2 = true) (h2 : (xe_cmp .ne (I1 35 ((a1).toInt.toNat)) 0) = false) : ∃ n, xr_X13_restore n (0, [(0, .ref 18), (1, .int a1)], [], (I, L)) (some (.int (0 : Int32))) (I1, L1) := by
  refine xe_go 5 (s' := (8, [(0, .ref 18), (1, .int a1)], [.int (1 : Int32), .int (0 : Int32), .int a1], ((xu I 18 0 (0 : Int32)), L))) rfl ?_
  refine xe_sta (n := 3) (f := fx_X13_isIn) rfl (Nat.le_of_ble_eq_true rfl) (List.mem_of_getElem? (i := 0) rfl) (Nat.le_of_ble_eq_true rfl) c1 ?_
  refine xe_ar 4 (A := (20, [(0, .ref 18), (1, .int a1)], [.int (I1 35 ((a1).toInt.toNat))], (I1, L1))) h1 rfl ?_
  refine xe_bF 0 (A := (25, [(0, .ref 18), (1, .int a1)], [], (I1, L1))) (B := (23, [(0, .ref 18), (1, .int a1)], [], (I1, L1))) h2 rfl ?_
  refine xe_go 0 (s' := (24, [(0, .ref 18), (1, .int a1)], [.int (0 : Int32)], (I1, L1))) rfl ?_
  exact xe_end rfl rfl rfl
set_option maxRecDepth 100000 in
theorem pt_X13_restore_2 {a1 : Int32} {I I1 : Nat → Nat → Int32} {L L1 : Nat → Nat → Int64} (c1 : fx_X13_isIn [.int (1 : Int32), .int (0 : Int32), .int a1] ((xu I 18 0 (0 : Int32)), L) (some (.int 0)) (I1, L1)) : ∃ n, xr_X13_restore n (0, [(0, .ref 18), (1, .int a1)], [], (I, L)) (some (.int (0 : Int32))) (I1, L1) := by
  refine xe_go 5 (s' := (8, [(0, .ref 18), (1, .int a1)], [.int (1 : Int32), .int (0 : Int32), .int a1], ((xu I 18 0 (0 : Int32)), L))) rfl ?_
  refine xe_sta (n := 3) (f := fx_X13_isIn) rfl (Nat.le_of_ble_eq_true rfl) (List.mem_of_getElem? (i := 0) rfl) (Nat.le_of_ble_eq_true rfl) c1 ?_
  refine xe_go 1 (s' := (24, [(0, .ref 18), (1, .int a1)], [.int (0 : Int32)], (I1, L1))) rfl ?_
  exact xe_end rfl rfl rfl
set_option maxRecDepth 100000 in
theorem pt_X13_restore_3 {l1 l2 : Int32} {I : Nat → Nat → Int32} {L : Nat → Nat → Int64} (h1 : (xe_cmp .ge l2 (874 : Int32)) = true) {v9 : Option Value} {hp9 : xe_H} (r9 : ∃ n, xr_X13_restore n (60, [(0, .ref 18), (1, .int l1), (2, .int (0 : Int32))], [], (I, L)) v9 hp9) : ∃ n, xr_X13_restore n (27, [(0, .ref 18), (1, .int l1), (2, .int l2)], [], (I, L)) v9 hp9 := by
  refine xe_bT 2 (A := (58, [(0, .ref 18), (1, .int l1), (2, .int l2)], [], (I, L))) (B := (34, [(0, .ref 18), (1, .int l1), (2, .int l2)], [], (I, L))) h1 rfl ?_
  refine xe_go 1 (s' := (60, [(0, .ref 18), (1, .int l1), (2, .int (0 : Int32))], [], (I, L))) rfl ?_
  exact xe_nrm [0, 1, 2] rfl r9
set_option maxRecDepth 100000 in
theorem pt_X13_restore_4 {l1 l2 : Int32} {I : Nat → Nat → Int32} {L : Nat → Nat → Int64} (h1 : (xe_cmp .ge l2 (874 : Int32)) = false) (h2 : xe_ib (((874 : Int32) * l1) + l2) 1748 = true) (h3 : xe_ib l2 874 = true) {v9 : Option Value} {hp9 : xe_H} (r9 : ∃ n, xr_X13_restore n (27, [(0, .ref 18), (1, .int l1), (2, .int (l2 + (1 : Int32)))], [], ((xu I 20 ((l2).toInt.toNat) (I 33 (((((874 : Int32) * l1) + l2)).toInt.toNat))), L)) v9 hp9) : ∃ n, xr_X13_restore n (27, [(0, .ref 18), (1, .int l1), (2, .int l2)], [], (I, L)) v9 hp9 := by
  refine xe_bF 2 (A := (58, [(0, .ref 18), (1, .int l1), (2, .int l2)], [], (I, L))) (B := (34, [(0, .ref 18), (1, .int l1), (2, .int l2)], [], (I, L))) h1 rfl ?_
  refine xe_ar 10 (A := (51, [(0, .ref 18), (1, .int l1), (2, .int l2)], [.int (I 33 (((((874 : Int32) * l1) + l2)).toInt.toNat)), .int l2, .ref 20], (I, L))) h2 rfl ?_
  refine xe_ar 0 (A := (52, [(0, .ref 18), (1, .int l1), (2, .int l2)], [], ((xu I 20 ((l2).toInt.toNat) (I 33 (((((874 : Int32) * l1) + l2)).toInt.toNat))), L))) h3 rfl ?_
  refine xe_go 1 (s' := (27, [(0, .ref 18), (1, .int l1), (2, .int (l2 + (1 : Int32)))], [], ((xu I 20 ((l2).toInt.toNat) (I 33 (((((874 : Int32) * l1) + l2)).toInt.toNat))), L))) rfl ?_
  exact xe_nrm [0, 1, 2] rfl r9
set_option maxRecDepth 100000 in
theorem pt_X13_restore_5 {l1 l2 : Int32} {I : Nat → Nat → Int32} {L : Nat → Nat → Int64} (h1 : (xe_cmp .ge l2 (6 : Int32)) = true) : ∃ n, xr_X13_restore n (60, [(0, .ref 18), (1, .int l1), (2, .int l2)], [], (I, L)) (some (.int (1 : Int32))) ((xu I 18 25 (0 : Int32)), L) := by
  refine xe_bT 2 (A := (89, [(0, .ref 18), (1, .int l1), (2, .int l2)], [], (I, L))) (B := (66, [(0, .ref 18), (1, .int l1), (2, .int l2)], [], (I, L))) h1 rfl ?_
  refine xe_go 3 (s' := (95, [(0, .ref 18), (1, .int l1), (2, .int l2)], [.int (1 : Int32)], ((xu I 18 25 (0 : Int32)), L))) rfl ?_
  exact xe_end rfl rfl rfl
set_option maxRecDepth 100000 in
theorem pt_X13_restore_6 {l1 l2 : Int32} {I : Nat → Nat → Int32} {L : Nat → Nat → Int64} (h1 : (xe_cmp .ge l2 (6 : Int32)) = false) (h2 : xe_ib (((6 : Int32) * l1) + l2) 12 = true) (h3 : xe_ib l2 12 = true) {v9 : Option Value} {hp9 : xe_H} (r9 : ∃ n, xr_X13_restore n (60, [(0, .ref 18), (1, .int l1), (2, .int (l2 + (1 : Int32)))], [], (I, (xul L 23 ((l2).toInt.toNat) (L 34 (((((6 : Int32) * l1) + l2)).toInt.toNat))))) v9 hp9) : ∃ n, xr_X13_restore n (60, [(0, .ref 18), (1, .int l1), (2, .int l2)], [], (I, L)) v9 hp9 := by
  refine xe_bF 2 (A := (89, [(0, .ref 18), (1, .int l1), (2, .int l2)], [], (I, L))) (B := (66, [(0, .ref 18), (1, .int l1), (2, .int l2)], [], (I, L))) h1 rfl ?_
  refine xe_ar 10 (A := (82, [(0, .ref 18), (1, .int l1), (2, .int l2)], [.long (L 34 (((((6 : Int32) * l1) + l2)).toInt.toNat)), .int l2, .ref 23], (I, L))) h2 rfl ?_
  refine xe_ar 0 (A := (83, [(0, .ref 18), (1, .int l1), (2, .int l2)], [], (I, (xul L 23 ((l2).toInt.toNat) (L 34 (((((6 : Int32) * l1) + l2)).toInt.toNat)))))) h3 rfl ?_
  refine xe_go 1 (s' := (60, [(0, .ref 18), (1, .int l1), (2, .int (l2 + (1 : Int32)))], [], (I, (xul L 23 ((l2).toInt.toNat) (L 34 (((((6 : Int32) * l1) + l2)).toInt.toNat)))))) rfl ?_
  exact xe_nrm [0, 1, 2] rfl r9

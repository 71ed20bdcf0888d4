/-! ===== the reference's sentence: tables, contracts, paths ===== -/
def xi_X13_code : List (Nat × Nat × Instr) := [(0, 1, .aload_n 0), (1, 3, .getfield 40), (4, 1, .iconst 3), (5, 1, .aload_n 0), (6, 3, .getfield 416), (9, 1, .imul), (10, 1, .iload_n 1), (11, 1, .iastore), (12, 1, .aload_n 0), (13, 3, .getfield 40), (16, 1, .iconst 3), (17, 1, .aload_n 0), (18, 3, .getfield 416), (21, 1, .imul), (22, 1, .iconst 1), (23, 1, .iadd), (24, 1, .iload_n 2), (25, 1, .iastore), (26, 1, .aload_n 0), (27, 3, .getfield 40), (30, 1, .iconst 3), (31, 1, .aload_n 0), (32, 3, .getfield 416), (35, 1, .imul), (36, 1, .iconst 2), (37, 1, .iadd), (38, 1, .iload_n 3), (39, 1, .iastore), (40, 1, .aload_n 0), (41, 1, .dup), (42, 3, .getfield 416), (45, 1, .iconst 1), (46, 1, .iadd), (47, 3, .putfield 416), (50, 1, .return_)]
def xg_X13_code : zf_ft := [(40, 11, 8, .inl (0, 0)), (416, 11, 38, .inl (0, 0))]
def xp_X13_code : zf_ft := [(416, 11, 38, .inl ((-2147483648), 2147483647))]
def xv_X13_code : List (Nat × Nat × xe_F) := []
def xt_X13_code : List (Nat × Nat × xe_F) := []
abbrev xr_X13_code := xe_run xGT xSC xRF 4 xg_X13_code xp_X13_code [] [] (xv_X13_code) xt_X13_code xi_X13_code
def fx_X13_code : xe_F := fun us hp v hp' => (us.map fun v => v.category).sum ≤ 4 ∧ xe_rt none v ∧ (∃ ar, us = ar ++ [.ref 18]) ∧ ∃ n, xr_X13_code n (0, xe_ag 0 us.reverse, [], hp) v hp'
theorem mk_X13_code {a1 : Int32} {a2 : Int32} {a3 : Int32} {hp hp' : xe_H} {v : Option Value} (hr : xe_rt none v) (h : ∃ n, xr_X13_code n (0, [(0, .ref 18), (1, .int a1), (2, .int a2), (3, .int a3)], [], hp) v hp') : fx_X13_code [.int a3, .int a2, .int a1, .ref 18] hp v hp' := ⟨Nat.le_of_ble_eq_true rfl, hr, ⟨[.int a3, .int a2, .int a1], rfl⟩, h⟩
theorem hx_X13_code : ∀ us hp v hp', fx_X13_code us hp v hp' → (us.map fun v => v.category).sum ≤ 4 ∧ xe_rt none v ∧ ∃ n, xr_X13_code n (0, xe_ag 0 us.reverse, [], hp) v hp' := fun us hp v hp' h => ⟨h.1, h.2.1, h.2.2.2⟩
theorem fr_X13_code : ∀ us hp v hp', fx_X13_code us hp v hp' → ∃ ar, us = ar ++ [.ref 18] := fun us hp v hp' h => h.2.2.1
set_option maxRecDepth 100000 in
set_option maxHeartbeats 4000000 in
theorem kx_X13_code (l : Launch) (D : va_G) (k : Nat → ClassId) (B0 : Nat) (ad : Nat → Nat) (al sw : Nat) : xe_Con l yX13_code (zw yX13_code cX13_code 4 none) ({ frames := 0, cells := 0, slots := 0, locals := 0 }) D k ad (zEx B0 ad al sw) xGT xSC xRF (fx_X13_code) := by
  have hEx := zEx_ok B0 ad al sw
  refine xe_mk (cc := cX13_code) (nL := 4) (ret := none) (fg := xg_X13_code) (fp := xp_X13_code) (sg := []) (lc := []) (cv := xv_X13_code) (cs := xt_X13_code) (ins := xi_X13_code) (by decide) rfl hEx (by decide +kernel) hx_X13_code ?_
  intro p e s m args below meth c Q Sg w0 A θ S hK hE hAB hA hth
  refine ⟨?_, ?_, ?_, ?_, ?_, ?_⟩
  · exact zf_ac ((fun H locs ws a q0 fs v rest pc ls hP he hv hdg kk => va_get (D := D) (ci := 11) (C := RX13) (T := TX13) (N := 47) (own := RX13) S.1 S.2.1 S.2.2.2.2 (zg_in inW_X13) S.2.2.2.1 hK hP q0 he rfl 8 (by decide) (S.2.2.2.2 (.fieldLink RX13 40 "RungMoneyModel" "read" "[I") (List.mem_cons_of_mem _ zw_1356)) (fun _ h9 => h9) hv hdg kk)) (zf_ac ((fun H locs ws a q0 fs v rest pc ls hP he hv hdg kk => va_get (D := D) (ci := 11) (C := RX13) (T := TX13) (N := 47) (own := RX13) S.1 S.2.1 S.2.2.2.2 (zg_in inW_X13) S.2.2.2.1 hK hP q0 he rfl 38 (by decide) (S.2.2.2.2 (.fieldLink RX13 416 "RungMoneyModel" "codes" "I") (List.mem_cons_of_mem _ zw_1386)) (fun _ h9 => h9) hv hdg kk)) zf_an)
  · exact zf_ac ((fun H locs ws a q0 fs v rest pc ls hP hD hS he hl hv hdg kk => by obtain ⟨x, rfl, h1, h2⟩ := hv; exact va_put (D := D) (ci := 11) (v := .int x) (ty := .int) (C := RX13) (T := TX13) (N := 47) (own := RX13) S.1 S.2.1 S.2.2.2.2 (zg_in inW_X13) tyX13 tyX13_ok nmX13 S.2.2.2.1 hK hP hD hS q0 he rfl 38 (by decide) (S.2.2.2.2 (.fieldLink RX13 416 "RungMoneyModel" "codes" "I") (List.mem_cons_of_mem _ zw_1386)) (fun _ h9 => h9) rfl (by decide +kernel) rfl rfl hl hdg kk)) zf_an
  · exact xe_n2
  · exact xe_n3
  · exact xe_n4
  · exact xe_n4
set_option maxRecDepth 100000 in
theorem pt_X13_code_0 {a1 a2 a3 : Int32} {I : Nat → Nat → Int32} {L : Nat → Nat → Int64} (h1 : xe_ib ((3 : Int32) * (I 18 38)) 160 = true) (h2 : xe_ib (((3 : Int32) * (I 18 38)) + (1 : Int32)) 160 = true) (h3 : xe_ib (((3 : Int32) * (I 18 38)) + (2 : Int32)) 160 = true) : ∃ n, xr_X13_code n (0, [(0, .ref 18), (1, .int a1), (2, .int a2), (3, .int a3)], [], (I, L)) none ((xu (xu (xu (xu I 22 ((((3 : Int32) * (I 18 38))).toInt.toNat) a1) 22 (((((3 : Int32) * (I 18 38)) + (1 : Int32))).toInt.toNat) a2) 22 (((((3 : Int32) * (I 18 38)) + (2 : Int32))).toInt.toNat) a3) 18 38 ((I 18 38) + (1 : Int32))), L) := by
  refine xe_ar 7 (A := (12, [(0, .ref 18), (1, .int a1), (2, .int a2), (3, .int a3)], [], ((xu I 22 ((((3 : Int32) * (I 18 38))).toInt.toNat) a1), L))) h1 rfl ?_
  refine xe_ar 9 (A := (26, [(0, .ref 18), (1, .int a1), (2, .int a2), (3, .int a3)], [], ((xu (xu I 22 ((((3 : Int32) * (I 18 38))).toInt.toNat) a1) 22 (((((3 : Int32) * (I 18 38)) + (1 : Int32))).toInt.toNat) a2), L))) h2 rfl ?_
  refine xe_ar 9 (A := (40, [(0, .ref 18), (1, .int a1), (2, .int a2), (3, .int a3)], [], ((xu (xu (xu I 22 ((((3 : Int32) * (I 18 38))).toInt.toNat) a1) 22 (((((3 : Int32) * (I 18 38)) + (1 : Int32))).toInt.toNat) a2) 22 (((((3 : Int32) * (I 18 38)) + (2 : Int32))).toInt.toNat) a3), L))) h3 rfl ?_
  refine xe_go 5 (s' := (50, [(0, .ref 18), (1, .int a1), (2, .int a2), (3, .int a3)], [], ((xu (xu (xu (xu I 22 ((((3 : Int32) * (I 18 38))).toInt.toNat) a1) 22 (((((3 : Int32) * (I 18 38)) + (1 : Int32))).toInt.toNat) a2) 22 (((((3 : Int32) * (I 18 38)) + (2 : Int32))).toInt.toNat) a3) 18 38 ((I 18 38) + (1 : Int32))), L))) rfl ?_
  exact xe_end rfl rfl rfl
def xi_X13_joins : List (Nat × Nat × Instr) := [(0, 1, .aload_n 0), (1, 3, .getfield 419), (4, 3, .ifCond .le 69), (7, 1, .aload_n 0), (8, 3, .getfield 68), (11, 1, .aload_n 0), (12, 3, .getfield 419), (15, 1, .iconst 1), (16, 1, .isub), (17, 1, .iaload), (18, 2, .bipush 21), (20, 3, .if_icmp .eq 25), (23, 1, .aload_n 0), (24, 3, .getfield 68), (27, 1, .aload_n 0), (28, 3, .getfield 419), (31, 1, .iconst 1), (32, 1, .isub), (33, 1, .iaload), (34, 2, .bipush 22), (36, 3, .if_icmp .ne 37), (39, 1, .iload_n 1), (40, 2, .bipush 22), (42, 3, .if_icmp .ne 31), (45, 1, .aload_n 0), (46, 1, .dup), (47, 3, .getfield 419), (50, 1, .iconst 1), (51, 1, .isub), (52, 3, .putfield 419), (55, 1, .aload_n 0), (56, 1, .aload_n 0), (57, 3, .getfield 68), (60, 1, .aload_n 0), (61, 3, .getfield 419), (64, 1, .iaload), (65, 1, .iconst 0), (66, 1, .iconst 0), (67, 3, .invokevirtual 422), (70, 3, .goto (-70)), (73, 1, .return_)]
def xg_X13_joins : zf_ft := [(419, 11, 40, .inl (0, 0)), (68, 11, 37, .inl (0, 0))]
def xp_X13_joins : zf_ft := [(419, 11, 40, .inl ((-2147483648), 2147483647))]
def xv_X13_joins : List (Nat × Nat × xe_F) := [(422, 4, fx_X13_code)]
def xt_X13_joins : List (Nat × Nat × xe_F) := []
abbrev xr_X13_joins := xe_run xGT xSC xRF 2 xg_X13_joins xp_X13_joins [] [] (xv_X13_joins) xt_X13_joins xi_X13_joins
def fx_X13_joins : xe_F := fun us hp v hp' => (us.map fun v => v.category).sum ≤ 2 ∧ xe_rt none v ∧ (∃ ar, us = ar ++ [.ref 18]) ∧ ∃ n, xr_X13_joins n (0, xe_ag 0 us.reverse, [], hp) v hp'
theorem mk_X13_joins {a1 : Int32} {hp hp' : xe_H} {v : Option Value} (hr : xe_rt none v) (h : ∃ n, xr_X13_joins n (0, [(0, .ref 18), (1, .int a1)], [], hp) v hp') : fx_X13_joins [.int a1, .ref 18] hp v hp' := ⟨Nat.le_of_ble_eq_true rfl, hr, ⟨[.int a1], rfl⟩, h⟩
theorem hx_X13_joins : ∀ us hp v hp', fx_X13_joins us hp v hp' → (us.map fun v => v.category).sum ≤ 2 ∧ xe_rt none v ∧ ∃ n, xr_X13_joins n (0, xe_ag 0 us.reverse, [], hp) v hp' := fun us hp v hp' h => ⟨h.1, h.2.1, h.2.2.2⟩
theorem fr_X13_joins : ∀ us hp v hp', fx_X13_joins us hp v hp' → ∃ ar, us = ar ++ [.ref 18] := fun us hp v hp' h => h.2.2.1
set_option maxRecDepth 100000 in
set_option maxHeartbeats 4000000 in
theorem kx_X13_joins (l : Launch) (D : va_G) (k : Nat → ClassId) (B0 : Nat) (ad : Nat → Nat) (al sw : Nat) : xe_Con l yX13_joins (zw yX13_joins cX13_joins 2 none) ({ frames := 1, cells := 0, slots := 0, locals := 23 }) D k ad (zEx B0 ad al sw) xGT xSC xRF (fx_X13_joins) := by
  have hEx := zEx_ok B0 ad al sw
  refine xe_mk (cc := cX13_joins) (nL := 2) (ret := none) (fg := xg_X13_joins) (fp := xp_X13_joins) (sg := []) (lc := []) (cv := xv_X13_joins) (cs := xt_X13_joins) (ins := xi_X13_joins) (by decide) rfl hEx (by decide +kernel) hx_X13_joins ?_
  intro p e s m args below meth c Q Sg w0 A θ S hK hE hAB hA hth
  refine ⟨?_, ?_, ?_, ?_, ?_, ?_⟩
  · exact zf_ac ((fun H locs ws a q0 fs v rest pc ls hP he hv hdg kk => va_get (D := D) (ci := 11) (C := RX13) (T := TX13) (N := 47) (own := RX13) S.1 S.2.1 S.2.2.2.2 (zg_in inW_X13) S.2.2.2.1 hK hP q0 he rfl 40 (by decide) (S.2.2.2.2 (.fieldLink RX13 419 "RungMoneyModel" "top" "I") (List.mem_cons_of_mem _ zw_1388)) (fun _ h9 => h9) hv hdg kk)) (zf_ac ((fun H locs ws a q0 fs v rest pc ls hP he hv hdg kk => va_get (D := D) (ci := 11) (C := RX13) (T := TX13) (N := 47) (own := RX13) S.1 S.2.1 S.2.2.2.2 (zg_in inW_X13) S.2.2.2.1 hK hP q0 he rfl 37 (by decide) (S.2.2.2.2 (.fieldLink RX13 68 "RungMoneyModel" "stack" "[I") (List.mem_cons_of_mem _ zw_1385)) (fun _ h9 => h9) hv hdg kk)) zf_an)
  · exact zf_ac ((fun H locs ws a q0 fs v rest pc ls hP hD hS he hl hv hdg kk => by obtain ⟨x, rfl, h1, h2⟩ := hv; exact va_put (D := D) (ci := 11) (v := .int x) (ty := .int) (C := RX13) (T := TX13) (N := 47) (own := RX13) S.1 S.2.1 S.2.2.2.2 (zg_in inW_X13) tyX13 tyX13_ok nmX13 S.2.2.2.1 hK hP hD hS q0 he rfl 40 (by decide) (S.2.2.2.2 (.fieldLink RX13 419 "RungMoneyModel" "top" "I") (List.mem_cons_of_mem _ zw_1388)) (fun _ h9 => h9) rfl (by decide +kernel) rfl rfl hl hdg kk)) zf_an
  · exact xe_n2
  · exact xe_n3
  · exact xe_a4 (xe_crV S hEx hE hAB hA hK hth (kx_X13_code l D k B0 ad al sw) (cwV 3 S.2.2.2.2 (zg_V zw_1913 zw_1915 zw_87 zw_109 zw_1916) rfl rfl rfl (by decide +kernel) ⟨(Nat.le_of_ble_eq_true rfl), (Nat.le_of_ble_eq_true rfl)⟩) ⟨(Nat.le_of_ble_eq_true rfl), (Nat.le_of_ble_eq_true rfl)⟩ 11 rfl rfl 18 (by decide +kernel) fr_X13_code) xe_n4
  · exact xe_n4
set_option maxRecDepth 100000 in
theorem pt_X13_joins_0 {a1 : Int32} {I : Nat → Nat → Int32} {L : Nat → Nat → Int64} (h1 : (xe_cmp .le (I 18 40) 0) = true) : ∃ n, xr_X13_joins n (0, [(0, .ref 18), (1, .int a1)], [], (I, L)) none (I, L) := by
  refine xe_bT 2 (A := (73, [(0, .ref 18), (1, .int a1)], [], (I, L))) (B := (7, [(0, .ref 18), (1, .int a1)], [], (I, L))) h1 rfl ?_
  exact xe_end rfl rfl rfl
set_option maxRecDepth 100000 in
theorem pt_X13_joins_1 {a1 : Int32} {I I1 : Nat → Nat → Int32} {L L1 : Nat → Nat → Int64} (h1 : (xe_cmp .le (I 18 40) 0) = false) (h2 : xe_ib ((I 18 40) - (1 : Int32)) 45 = true) (h3 : (xe_cmp .eq (I 31 ((((I 18 40) - (1 : Int32))).toInt.toNat)) (21 : Int32)) = true) (h4 : xe_ib ((I 18 40) - (1 : Int32)) 45 = true) (c1 : fx_X13_code [.int (0 : Int32), .int (0 : Int32), .int (I 31 ((((I 18 40) - (1 : Int32))).toInt.toNat)), .ref 18] ((xu I 18 40 ((I 18 40) - (1 : Int32))), L) none (I1, L1)) {v9 : Option Value} {hp9 : xe_H} (r9 : ∃ n, xr_X13_joins n (0, [(0, .ref 18), (1, .int a1)], [], (I1, L1)) v9 hp9) : ∃ n, xr_X13_joins n (0, [(0, .ref 18), (1, .int a1)], [], (I, L)) v9 hp9 := by
  refine xe_bF 2 (A := (73, [(0, .ref 18), (1, .int a1)], [], (I, L))) (B := (7, [(0, .ref 18), (1, .int a1)], [], (I, L))) h1 rfl ?_
  refine xe_ar 6 (A := (18, [(0, .ref 18), (1, .int a1)], [.int (I 31 ((((I 18 40) - (1 : Int32))).toInt.toNat))], (I, L))) h2 rfl ?_
  refine xe_bT 1 (A := (45, [(0, .ref 18), (1, .int a1)], [], (I, L))) (B := (23, [(0, .ref 18), (1, .int a1)], [], (I, L))) h3 rfl ?_
  refine xe_ar 11 (A := (65, [(0, .ref 18), (1, .int a1)], [.int (I 31 ((((I 18 40) - (1 : Int32))).toInt.toNat)), .ref 18], ((xu I 18 40 ((I 18 40) - (1 : Int32))), L))) h4 rfl ?_
  refine xe_go 1 (s' := (67, [(0, .ref 18), (1, .int a1)], [.int (0 : Int32), .int (0 : Int32), .int (I 31 ((((I 18 40) - (1 : Int32))).toInt.toNat)), .ref 18], ((xu I 18 40 ((I 18 40) - (1 : Int32))), L))) rfl ?_
  refine xe_vir (n := 4) (f := fx_X13_code) rfl (Nat.le_of_ble_eq_true rfl) (List.mem_of_getElem? (i := 0) rfl) (Nat.le_of_ble_eq_true rfl) c1 ?_
  refine xe_go 0 (s' := (0, [(0, .ref 18), (1, .int a1)], [], (I1, L1))) rfl ?_
  exact xe_nrm [0, 1] rfl r9
set_option maxRecDepth 100000 in
theorem pt_X13_joins_2 {a1 : Int32} {I : Nat → Nat → Int32} {L : Nat → Nat → Int64} (h1 : (xe_cmp .le (I 18 40) 0) = false) (h2 : xe_ib ((I 18 40) - (1 : Int32)) 45 = true) (h3 : (xe_cmp .eq (I 31 ((((I 18 40) - (1 : Int32))).toInt.toNat)) (21 : Int32)) = false) (h4 : xe_ib ((I 18 40) - (1 : Int32)) 45 = true) (h5 : (xe_cmp .ne (I 31 ((((I 18 40) - (1 : Int32))).toInt.toNat)) (22 : Int32)) = true) : ∃ n, xr_X13_joins n (0, [(0, .ref 18), (1, .int a1)], [], (I, L)) none (I, L) := by
  refine xe_bF 2 (A := (73, [(0, .ref 18), (1, .int a1)], [], (I, L))) (B := (7, [(0, .ref 18), (1, .int a1)], [], (I, L))) h1 rfl ?_
  refine xe_ar 6 (A := (18, [(0, .ref 18), (1, .int a1)], [.int (I 31 ((((I 18 40) - (1 : Int32))).toInt.toNat))], (I, L))) h2 rfl ?_
  refine xe_bF 1 (A := (45, [(0, .ref 18), (1, .int a1)], [], (I, L))) (B := (23, [(0, .ref 18), (1, .int a1)], [], (I, L))) h3 rfl ?_
  refine xe_ar 6 (A := (34, [(0, .ref 18), (1, .int a1)], [.int (I 31 ((((I 18 40) - (1 : Int32))).toInt.toNat))], (I, L))) h4 rfl ?_
  refine xe_bT 1 (A := (73, [(0, .ref 18), (1, .int a1)], [], (I, L))) (B := (39, [(0, .ref 18), (1, .int a1)], [], (I, L))) h5 rfl ?_
  exact xe_end rfl rfl rfl
set_option maxRecDepth 100000 in
theorem pt_X13_joins_3 {a1 : Int32} {I : Nat → Nat → Int32} {L : Nat → Nat → Int64} (h1 : (xe_cmp .le (I 18 40) 0) = false) (h2 : xe_ib ((I 18 40) - (1 : Int32)) 45 = true) (h3 : (xe_cmp .eq (I 31 ((((I 18 40) - (1 : Int32))).toInt.toNat)) (21 : Int32)) = false) (h4 : xe_ib ((I 18 40) - (1 : Int32)) 45 = true) (h5 : (xe_cmp .ne (I 31 ((((I 18 40) - (1 : Int32))).toInt.toNat)) (22 : Int32)) = false) (h6 : (xe_cmp .ne a1 (22 : Int32)) = true) : ∃ n, xr_X13_joins n (0, [(0, .ref 18), (1, .int a1)], [], (I, L)) none (I, L) := by
  refine xe_bF 2 (A := (73, [(0, .ref 18), (1, .int a1)], [], (I, L))) (B := (7, [(0, .ref 18), (1, .int a1)], [], (I, L))) h1 rfl ?_
  refine xe_ar 6 (A := (18, [(0, .ref 18), (1, .int a1)], [.int (I 31 ((((I 18 40) - (1 : Int32))).toInt.toNat))], (I, L))) h2 rfl ?_
  refine xe_bF 1 (A := (45, [(0, .ref 18), (1, .int a1)], [], (I, L))) (B := (23, [(0, .ref 18), (1, .int a1)], [], (I, L))) h3 rfl ?_
  refine xe_ar 6 (A := (34, [(0, .ref 18), (1, .int a1)], [.int (I 31 ((((I 18 40) - (1 : Int32))).toInt.toNat))], (I, L))) h4 rfl ?_
  refine xe_bF 1 (A := (73, [(0, .ref 18), (1, .int a1)], [], (I, L))) (B := (39, [(0, .ref 18), (1, .int a1)], [], (I, L))) h5 rfl ?_
  refine xe_bT 2 (A := (73, [(0, .ref 18), (1, .int a1)], [], (I, L))) (B := (45, [(0, .ref 18), (1, .int a1)], [], (I, L))) h6 rfl ?_
  exact xe_end rfl rfl rfl
set_option maxRecDepth 100000 in
theorem pt_X13_joins_4 {a1 : Int32} {I I1 : Nat → Nat → Int32} {L L1 : Nat → Nat → Int64} (h1 : (xe_cmp .le (I 18 40) 0) = false) (h2 : xe_ib ((I 18 40) - (1 : Int32)) 45 = true) (h3 : (xe_cmp .eq (I 31 ((((I 18 40) - (1 : Int32))).toInt.toNat)) (21 : Int32)) = false) (h4 : xe_ib ((I 18 40) - (1 : Int32)) 45 = true) (h5 : (xe_cmp .ne (I 31 ((((I 18 40) - (1 : Int32))).toInt.toNat)) (22 : Int32)) = false) (h6 : (xe_cmp .ne a1 (22 : Int32)) = false) (h7 : xe_ib ((I 18 40) - (1 : Int32)) 45 = true) (c1 : fx_X13_code [.int (0 : Int32), .int (0 : Int32), .int (I 31 ((((I 18 40) - (1 : Int32))).toInt.toNat)), .ref 18] ((xu I 18 40 ((I 18 40) - (1 : Int32))), L) none (I1, L1)) {v9 : Option Value} {hp9 : xe_H} (r9 : ∃ n, xr_X13_joins n (0, [(0, .ref 18), (1, .int a1)], [], (I1, L1)) v9 hp9) : ∃ n, xr_X13_joins n (0, [(0, .ref 18), (1, .int a1)], [], (I, L)) v9 hp9 := by
  refine xe_bF 2 (A := (73, [(0, .ref 18), (1, .int a1)], [], (I, L))) (B := (7, [(0, .ref 18), (1, .int a1)], [], (I, L))) h1 rfl ?_
  refine xe_ar 6 (A := (18, [(0, .ref 18), (1, .int a1)], [.int (I 31 ((((I 18 40) - (1 : Int32))).toInt.toNat))], (I, L))) h2 rfl ?_
  refine xe_bF 1 (A := (45, [(0, .ref 18), (1, .int a1)], [], (I, L))) (B := (23, [(0, .ref 18), (1, .int a1)], [], (I, L))) h3 rfl ?_
  refine xe_ar 6 (A := (34, [(0, .ref 18), (1, .int a1)], [.int (I 31 ((((I 18 40) - (1 : Int32))).toInt.toNat))], (I, L))) h4 rfl ?_
  refine xe_bF 1 (A := (73, [(0, .ref 18), (1, .int a1)], [], (I, L))) (B := (39, [(0, .ref 18), (1, .int a1)], [], (I, L))) h5 rfl ?_
  refine xe_bF 2 (A := (73, [(0, .ref 18), (1, .int a1)], [], (I, L))) (B := (45, [(0, .ref 18), (1, .int a1)], [], (I, L))) h6 rfl ?_
  refine xe_ar 11 (A := (65, [(0, .ref 18), (1, .int a1)], [.int (I 31 ((((I 18 40) - (1 : Int32))).toInt.toNat)), .ref 18], ((xu I 18 40 ((I 18 40) - (1 : Int32))), L))) h7 rfl ?_
  refine xe_go 1 (s' := (67, [(0, .ref 18), (1, .int a1)], [.int (0 : Int32), .int (0 : Int32), .int (I 31 ((((I 18 40) - (1 : Int32))).toInt.toNat)), .ref 18], ((xu I 18 40 ((I 18 40) - (1 : Int32))), L))) rfl ?_
  refine xe_vir (n := 4) (f := fx_X13_code) rfl (Nat.le_of_ble_eq_true rfl) (List.mem_of_getElem? (i := 0) rfl) (Nat.le_of_ble_eq_true rfl) c1 ?_
  refine xe_go 0 (s' := (0, [(0, .ref 18), (1, .int a1)], [], (I1, L1))) rfl ?_
  exact xe_nrm [0, 1] rfl r9
def xi_X13_nots : List (Nat × Nat × Instr) := [(0, 1, .aload_n 0), (1, 3, .getfield 419), (4, 3, .ifCond .le 50), (7, 1, .aload_n 0), (8, 3, .getfield 68), (11, 1, .aload_n 0), (12, 3, .getfield 419), (15, 1, .iconst 1), (16, 1, .isub), (17, 1, .iaload), (18, 2, .bipush 20), (20, 3, .if_icmp .ne 34), (23, 1, .aload_n 0), (24, 1, .dup), (25, 3, .getfield 419), (28, 1, .iconst 1), (29, 1, .isub), (30, 3, .putfield 419), (33, 1, .aload_n 0), (34, 1, .dup), (35, 3, .getfield 425), (38, 1, .iconst 1), (39, 1, .isub), (40, 3, .putfield 425), (43, 1, .aload_n 0), (44, 2, .bipush 20), (46, 1, .iconst 0), (47, 1, .iconst 0), (48, 3, .invokevirtual 422), (51, 3, .goto (-51)), (54, 1, .return_)]
def xg_X13_nots : zf_ft := [(419, 11, 40, .inl (0, 0)), (68, 11, 37, .inl (0, 0)), (425, 11, 41, .inl (0, 0))]
def xp_X13_nots : zf_ft := [(419, 11, 40, .inl ((-2147483648), 2147483647)), (425, 11, 41, .inl ((-2147483648), 2147483647))]
def xv_X13_nots : List (Nat × Nat × xe_F) := [(422, 4, fx_X13_code)]
def xt_X13_nots : List (Nat × Nat × xe_F) := []
abbrev xr_X13_nots := xe_run xGT xSC xRF 1 xg_X13_nots xp_X13_nots [] [] (xv_X13_nots) xt_X13_nots xi_X13_nots
def fx_X13_nots : xe_F := fun us hp v hp' => (us.map fun v => v.category).sum ≤ 1 ∧ xe_rt none v ∧ (∃ ar, us = ar ++ [.ref 18]) ∧ ∃ n, xr_X13_nots n (0, xe_ag 0 us.reverse, [], hp) v hp'
theorem mk_X13_nots  {hp hp' : xe_H} {v : Option Value} (hr : xe_rt none v) (h : ∃ n, xr_X13_nots n (0, [(0, .ref 18)], [], hp) v hp') : fx_X13_nots [.ref 18] hp v hp' := ⟨Nat.le_of_ble_eq_true rfl, hr, ⟨[], rfl⟩, h⟩
theorem hx_X13_nots : ∀ us hp v hp', fx_X13_nots us hp v hp' → (us.map fun v => v.category).sum ≤ 1 ∧ xe_rt none v ∧ ∃ n, xr_X13_nots n (0, xe_ag 0 us.reverse, [], hp) v hp' := fun us hp v hp' h => ⟨h.1, h.2.1, h.2.2.2⟩
theorem fr_X13_nots : ∀ us hp v hp', fx_X13_nots us hp v hp' → ∃ ar, us = ar ++ [.ref 18] := fun us hp v hp' h => h.2.2.1
set_option maxRecDepth 100000 in
set_option maxHeartbeats 4000000 in
theorem kx_X13_nots (l : Launch) (D : va_G) (k : Nat → ClassId) (B0 : Nat) (ad : Nat → Nat) (al sw : Nat) : xe_Con l yX13_nots (zw yX13_nots cX13_nots 1 none) ({ frames := 1, cells := 0, slots := 0, locals := 23 }) D k ad (zEx B0 ad al sw) xGT xSC xRF (fx_X13_nots) := by
  have hEx := zEx_ok B0 ad al sw
  refine xe_mk (cc := cX13_nots) (nL := 1) (ret := none) (fg := xg_X13_nots) (fp := xp_X13_nots) (sg := []) (lc := []) (cv := xv_X13_nots) (cs := xt_X13_nots) (ins := xi_X13_nots) (by decide) rfl hEx (by decide +kernel) hx_X13_nots ?_
  intro p e s m args below meth c Q Sg w0 A θ S hK hE hAB hA hth
  refine ⟨?_, ?_, ?_, ?_, ?_, ?_⟩
  · exact zf_ac ((fun H locs ws a q0 fs v rest pc ls hP he hv hdg kk => va_get (D := D) (ci := 11) (C := RX13) (T := TX13) (N := 47) (own := RX13) S.1 S.2.1 S.2.2.2.2 (zg_in inW_X13) S.2.2.2.1 hK hP q0 he rfl 40 (by decide) (S.2.2.2.2 (.fieldLink RX13 419 "RungMoneyModel" "top" "I") (List.mem_cons_of_mem _ zw_1388)) (fun _ h9 => h9) hv hdg kk)) (zf_ac ((fun H locs ws a q0 fs v rest pc ls hP he hv hdg kk => va_get (D := D) (ci := 11) (C := RX13) (T := TX13) (N := 47) (own := RX13) S.1 S.2.1 S.2.2.2.2 (zg_in inW_X13) S.2.2.2.1 hK hP q0 he rfl 37 (by decide) (S.2.2.2.2 (.fieldLink RX13 68 "RungMoneyModel" "stack" "[I") (List.mem_cons_of_mem _ zw_1385)) (fun _ h9 => h9) hv hdg kk)) (zf_ac ((fun H locs ws a q0 fs v rest pc ls hP he hv hdg kk => va_get (D := D) (ci := 11) (C := RX13) (T := TX13) (N := 47) (own := RX13) S.1 S.2.1 S.2.2.2.2 (zg_in inW_X13) S.2.2.2.1 hK hP q0 he rfl 41 (by decide) (S.2.2.2.2 (.fieldLink RX13 425 "RungMoneyModel" "deep" "I") (List.mem_cons_of_mem _ zw_1389)) (fun _ h9 => h9) hv hdg kk)) zf_an))
  · exact zf_ac ((fun H locs ws a q0 fs v rest pc ls hP hD hS he hl hv hdg kk => by obtain ⟨x, rfl, h1, h2⟩ := hv; exact va_put (D := D) (ci := 11) (v := .int x) (ty := .int) (C := RX13) (T := TX13) (N := 47) (own := RX13) S.1 S.2.1 S.2.2.2.2 (zg_in inW_X13) tyX13 tyX13_ok nmX13 S.2.2.2.1 hK hP hD hS q0 he rfl 40 (by decide) (S.2.2.2.2 (.fieldLink RX13 419 "RungMoneyModel" "top" "I") (List.mem_cons_of_mem _ zw_1388)) (fun _ h9 => h9) rfl (by decide +kernel) rfl rfl hl hdg kk)) (zf_ac ((fun H locs ws a q0 fs v rest pc ls hP hD hS he hl hv hdg kk => by obtain ⟨x, rfl, h1, h2⟩ := hv; exact va_put (D := D) (ci := 11) (v := .int x) (ty := .int) (C := RX13) (T := TX13) (N := 47) (own := RX13) S.1 S.2.1 S.2.2.2.2 (zg_in inW_X13) tyX13 tyX13_ok nmX13 S.2.2.2.1 hK hP hD hS q0 he rfl 41 (by decide) (S.2.2.2.2 (.fieldLink RX13 425 "RungMoneyModel" "deep" "I") (List.mem_cons_of_mem _ zw_1389)) (fun _ h9 => h9) rfl (by decide +kernel) rfl rfl hl hdg kk)) zf_an)
  · exact xe_n2
  · exact xe_n3
  · exact xe_a4 (xe_crV S hEx hE hAB hA hK hth (kx_X13_code l D k B0 ad al sw) (cwV 3 S.2.2.2.2 (zg_V zw_1913 zw_1915 zw_87 zw_109 zw_1916) rfl rfl rfl (by decide +kernel) ⟨(Nat.le_of_ble_eq_true rfl), (Nat.le_of_ble_eq_true rfl)⟩) ⟨(Nat.le_of_ble_eq_true rfl), (Nat.le_of_ble_eq_true rfl)⟩ 11 rfl rfl 18 (by decide +kernel) fr_X13_code) xe_n4
  · exact xe_n4
set_option maxRecDepth 100000 in
theorem pt_X13_nots_0 {I : Nat → Nat → Int32} {L : Nat → Nat → Int64} (h1 : (xe_cmp .le (I 18 40) 0) = true) : ∃ n, xr_X13_nots n (0, [(0, .ref 18)], [], (I, L)) none (I, L) := by
  refine xe_bT 2 (A := (54, [(0, .ref 18)], [], (I, L))) (B := (7, [(0, .ref 18)], [], (I, L))) h1 rfl ?_
  exact xe_end rfl rfl rfl
set_option maxRecDepth 100000 in
theorem pt_X13_nots_1 {I : Nat → Nat → Int32} {L : Nat → Nat → Int64} (h1 : (xe_cmp .le (I 18 40) 0) = false) (h2 : xe_ib ((I 18 40) - (1 : Int32)) 45 = true) (h3 : (xe_cmp .ne (I 31 ((((I 18 40) - (1 : Int32))).toInt.toNat)) (20 : Int32)) = true) : ∃ n, xr_X13_nots n (0, [(0, .ref 18)], [], (I, L)) none (I, L) := by
  refine xe_bF 2 (A := (54, [(0, .ref 18)], [], (I, L))) (B := (7, [(0, .ref 18)], [], (I, L))) h1 rfl ?_
  refine xe_ar 6 (A := (18, [(0, .ref 18)], [.int (I 31 ((((I 18 40) - (1 : Int32))).toInt.toNat))], (I, L))) h2 rfl ?_
  refine xe_bT 1 (A := (54, [(0, .ref 18)], [], (I, L))) (B := (23, [(0, .ref 18)], [], (I, L))) h3 rfl ?_
  exact xe_end rfl rfl rfl
set_option maxRecDepth 100000 in
theorem pt_X13_nots_2 {I I1 : Nat → Nat → Int32} {L L1 : Nat → Nat → Int64} (h1 : (xe_cmp .le (I 18 40) 0) = false) (h2 : xe_ib ((I 18 40) - (1 : Int32)) 45 = true) (h3 : (xe_cmp .ne (I 31 ((((I 18 40) - (1 : Int32))).toInt.toNat)) (20 : Int32)) = false) (c1 : fx_X13_code [.int (0 : Int32), .int (0 : Int32), .int (20 : Int32), .ref 18] ((xu (xu I 18 40 ((I 18 40) - (1 : Int32))) 18 41 ((I 18 41) - (1 : Int32))), L) none (I1, L1)) {v9 : Option Value} {hp9 : xe_H} (r9 : ∃ n, xr_X13_nots n (0, [(0, .ref 18)], [], (I1, L1)) v9 hp9) : ∃ n, xr_X13_nots n (0, [(0, .ref 18)], [], (I, L)) v9 hp9 := by
  refine xe_bF 2 (A := (54, [(0, .ref 18)], [], (I, L))) (B := (7, [(0, .ref 18)], [], (I, L))) h1 rfl ?_
  refine xe_ar 6 (A := (18, [(0, .ref 18)], [.int (I 31 ((((I 18 40) - (1 : Int32))).toInt.toNat))], (I, L))) h2 rfl ?_
  refine xe_bF 1 (A := (54, [(0, .ref 18)], [], (I, L))) (B := (23, [(0, .ref 18)], [], (I, L))) h3 rfl ?_
  refine xe_go 15 (s' := (48, [(0, .ref 18)], [.int (0 : Int32), .int (0 : Int32), .int (20 : Int32), .ref 18], ((xu (xu I 18 40 ((I 18 40) - (1 : Int32))) 18 41 ((I 18 41) - (1 : Int32))), L))) rfl ?_
  refine xe_vir (n := 4) (f := fx_X13_code) rfl (Nat.le_of_ble_eq_true rfl) (List.mem_of_getElem? (i := 0) rfl) (Nat.le_of_ble_eq_true rfl) c1 ?_
  refine xe_go 0 (s' := (0, [(0, .ref 18)], [], (I1, L1))) rfl ?_
  exact xe_nrm [0] rfl r9
def xi_X13_leafOf : List (Nat × Nat × Instr) := [(0, 1, .aload_n 0), (1, 3, .ldc2_w 114), (4, 3, .invokevirtual 193), (7, 3, .ifCond .eq 7), (10, 1, .iconst 0), (11, 3, .goto 104), (14, 1, .aload_n 0), (15, 3, .ldc2_w 116), (18, 3, .invokevirtual 193), (21, 3, .ifCond .eq 7), (24, 1, .iconst 1), (25, 3, .goto 90), (28, 1, .aload_n 0), (29, 3, .ldc2_w 118), (32, 3, .invokevirtual 193), (35, 3, .ifCond .eq 7), (38, 1, .iconst 2), (39, 3, .goto 76), (42, 1, .aload_n 0), (43, 3, .ldc2_w 120), (46, 3, .invokevirtual 193), (49, 3, .ifCond .eq 7), (52, 1, .iconst 3), (53, 3, .goto 62), (56, 1, .aload_n 0), (57, 3, .ldc2_w 122), (60, 3, .invokevirtual 193), (63, 3, .ifCond .eq 7), (66, 1, .iconst 4), (67, 3, .goto 48), (70, 1, .aload_n 0), (71, 3, .ldc2_w 124), (74, 3, .invokevirtual 193), (77, 3, .ifCond .eq 7), (80, 1, .iconst 5), (81, 3, .goto 34), (84, 1, .aload_n 0), (85, 3, .ldc2_w 126), (88, 3, .invokevirtual 193), (91, 3, .ifCond .eq 8), (94, 2, .bipush 6), (96, 3, .goto 19), (99, 1, .aload_n 0), (100, 3, .ldc2_w 128), (103, 3, .invokevirtual 193), (106, 3, .ifCond .eq 8), (109, 2, .bipush 7), (111, 3, .goto 4), (114, 1, .iconst (-1)), (115, 1, .ireturn)]
def xg_X13_leafOf : zf_ft := []
def xp_X13_leafOf : zf_ft := []
def xv_X13_leafOf : List (Nat × Nat × xe_F) := [(193, 2, fx_X13_isWord)]
def xt_X13_leafOf : List (Nat × Nat × xe_F) := []
abbrev xr_X13_leafOf := xe_run xGT xSC xRF 1 xg_X13_leafOf xp_X13_leafOf [] [(114, 1735356005), (116, 422607680115), (118, 439721161573), (120, 28518), (122, 1819242087), (124, 465726040947), (126, 512970880104), (128, 121450625394034)] (xv_X13_leafOf) xt_X13_leafOf xi_X13_leafOf
def fx_X13_leafOf : xe_F := fun us hp v hp' => (us.map fun v => v.category).sum ≤ 1 ∧ xe_rt (some .int) v ∧ (∃ ar, us = ar ++ [.ref 18]) ∧ ∃ n, xr_X13_leafOf n (0, xe_ag 0 us.reverse, [], hp) v hp'
theorem mk_X13_leafOf  {hp hp' : xe_H} {v : Option Value} (hr : xe_rt (some .int) v) (h : ∃ n, xr_X13_leafOf n (0, [(0, .ref 18)], [], hp) v hp') : fx_X13_leafOf [.ref 18] hp v hp' := ⟨Nat.le_of_ble_eq_true rfl, hr, ⟨[], rfl⟩, h⟩
theorem hx_X13_leafOf : ∀ us hp v hp', fx_X13_leafOf us hp v hp' → (us.map fun v => v.category).sum ≤ 1 ∧ xe_rt (some .int) v ∧ ∃ n, xr_X13_leafOf n (0, xe_ag 0 us.reverse, [], hp) v hp' := fun us hp v hp' h => ⟨h.1, h.2.1, h.2.2.2⟩
theorem fr_X13_leafOf : ∀ us hp v hp', fx_X13_leafOf us hp v hp' → ∃ ar, us = ar ++ [.ref 18] := fun us hp v hp' h => h.2.2.1
set_option maxRecDepth 100000 in
set_option maxHeartbeats 4000000 in
theorem kx_X13_leafOf (l : Launch) (D : va_G) (k : Nat → ClassId) (B0 : Nat) (ad : Nat → Nat) (al sw : Nat) : xe_Con l yX13_leafOf (zw yX13_leafOf cX13_leafOf 1 (some .int)) ({ frames := 1, cells := 0, slots := 0, locals := 22 }) D k ad (zEx B0 ad al sw) xGT xSC xRF (fx_X13_leafOf) := by
  have hEx := zEx_ok B0 ad al sw
  refine xe_mk (cc := cX13_leafOf) (nL := 1) (ret := (some .int)) (fg := xg_X13_leafOf) (fp := xp_X13_leafOf) (sg := []) (lc := [(114, 1735356005), (116, 422607680115), (118, 439721161573), (120, 28518), (122, 1819242087), (124, 465726040947), (126, 512970880104), (128, 121450625394034)]) (cv := xv_X13_leafOf) (cs := xt_X13_leafOf) (ins := xi_X13_leafOf) (by decide) rfl hEx (by decide +kernel) hx_X13_leafOf ?_
  intro p e s m args below meth c Q Sg w0 A θ S hK hE hAB hA hth
  refine ⟨?_, ?_, ?_, ?_, ?_, ?_⟩
  · exact zf_an
  · exact zf_an
  · exact xe_n2
  · exact xe_a3 ((fun H locs rest pc ls hdg kk => lv_ldc2 S.1 S.2.1 S.2.2.2.1 (S.2.2.2.2 (.constantLong RX13 114 1735356005) (List.mem_cons_of_mem _ zw_1340)) hdg kk)) (xe_a3 ((fun H locs rest pc ls hdg kk => lv_ldc2 S.1 S.2.1 S.2.2.2.1 (S.2.2.2.2 (.constantLong RX13 116 422607680115) (List.mem_cons_of_mem _ zw_1341)) hdg kk)) (xe_a3 ((fun H locs rest pc ls hdg kk => lv_ldc2 S.1 S.2.1 S.2.2.2.1 (S.2.2.2.2 (.constantLong RX13 118 439721161573) (List.mem_cons_of_mem _ zw_1342)) hdg kk)) (xe_a3 ((fun H locs rest pc ls hdg kk => lv_ldc2 S.1 S.2.1 S.2.2.2.1 (S.2.2.2.2 (.constantLong RX13 120 28518) (List.mem_cons_of_mem _ zw_1343)) hdg kk)) (xe_a3 ((fun H locs rest pc ls hdg kk => lv_ldc2 S.1 S.2.1 S.2.2.2.1 (S.2.2.2.2 (.constantLong RX13 122 1819242087) (List.mem_cons_of_mem _ zw_1344)) hdg kk)) (xe_a3 ((fun H locs rest pc ls hdg kk => lv_ldc2 S.1 S.2.1 S.2.2.2.1 (S.2.2.2.2 (.constantLong RX13 124 465726040947) (List.mem_cons_of_mem _ zw_1345)) hdg kk)) (xe_a3 ((fun H locs rest pc ls hdg kk => lv_ldc2 S.1 S.2.1 S.2.2.2.1 (S.2.2.2.2 (.constantLong RX13 126 512970880104) (List.mem_cons_of_mem _ zw_1346)) hdg kk)) (xe_a3 ((fun H locs rest pc ls hdg kk => lv_ldc2 S.1 S.2.1 S.2.2.2.1 (S.2.2.2.2 (.constantLong RX13 128 121450625394034) (List.mem_cons_of_mem _ zw_1347)) hdg kk)) xe_n3)))))))
  · exact xe_a4 (xe_crV S hEx hE hAB hA hK hth (kx_X13_isWord l D k B0 ad al sw) (cwV 1 S.2.2.2.2 (zg_V zw_1518 zw_1520 zw_30 zw_109 zw_1521) rfl rfl rfl (by decide +kernel) ⟨(Nat.le_of_ble_eq_true rfl), (Nat.le_of_ble_eq_true rfl)⟩) ⟨(Nat.le_of_ble_eq_true rfl), (Nat.le_of_ble_eq_true rfl)⟩ 11 rfl rfl 18 (by decide +kernel) fr_X13_isWord) xe_n4
  · exact xe_n4
set_option maxRecDepth 100000 in
theorem pt_X13_leafOf_0 {I I1 : Nat → Nat → Int32} {L L1 : Nat → Nat → Int64} (c1 : fx_X13_isWord [.long (1735356005 : Int64), .ref 18] (I, L) (some (.int 1)) (I1, L1)) : ∃ n, xr_X13_leafOf n (0, [(0, .ref 18)], [], (I, L)) (some (.int (0 : Int32))) (I1, L1) := by
  refine xe_go 1 (s' := (4, [(0, .ref 18)], [.long (1735356005 : Int64), .ref 18], (I, L))) rfl ?_
  refine xe_vir (n := 2) (f := fx_X13_isWord) rfl (Nat.le_of_ble_eq_true rfl) (List.mem_of_getElem? (i := 0) rfl) (Nat.le_of_ble_eq_true rfl) c1 ?_
  refine xe_go 2 (s' := (115, [(0, .ref 18)], [.int (0 : Int32)], (I1, L1))) rfl ?_
  exact xe_end rfl rfl rfl
set_option maxRecDepth 100000 in
theorem pt_X13_leafOf_1 {I I1 I2 : Nat → Nat → Int32} {L L1 L2 : Nat → Nat → Int64} (c1 : fx_X13_isWord [.long (1735356005 : Int64), .ref 18] (I, L) (some (.int 0)) (I1, L1)) (c2 : fx_X13_isWord [.long (422607680115 : Int64), .ref 18] (I1, L1) (some (.int 1)) (I2, L2)) : ∃ n, xr_X13_leafOf n (0, [(0, .ref 18)], [], (I, L)) (some (.int (1 : Int32))) (I2, L2) := by
  refine xe_go 1 (s' := (4, [(0, .ref 18)], [.long (1735356005 : Int64), .ref 18], (I, L))) rfl ?_
  refine xe_vir (n := 2) (f := fx_X13_isWord) rfl (Nat.le_of_ble_eq_true rfl) (List.mem_of_getElem? (i := 0) rfl) (Nat.le_of_ble_eq_true rfl) c1 ?_
  refine xe_go 2 (s' := (18, [(0, .ref 18)], [.long (422607680115 : Int64), .ref 18], (I1, L1))) rfl ?_
  refine xe_vir (n := 2) (f := fx_X13_isWord) rfl (Nat.le_of_ble_eq_true rfl) (List.mem_of_getElem? (i := 0) rfl) (Nat.le_of_ble_eq_true rfl) c2 ?_
  refine xe_go 2 (s' := (115, [(0, .ref 18)], [.int (1 : Int32)], (I2, L2))) rfl ?_
  exact xe_end rfl rfl rfl
set_option maxRecDepth 100000 in
theorem pt_X13_leafOf_2 {I I1 I2 I3 : Nat → Nat → Int32} {L L1 L2 L3 : Nat → Nat → Int64} (c1 : fx_X13_isWord [.long (1735356005 : Int64), .ref 18] (I, L) (some (.int 0)) (I1, L1)) (c2 : fx_X13_isWord [.long (422607680115 : Int64), .ref 18] (I1, L1) (some (.int 0)) (I2, L2)) (c3 : fx_X13_isWord [.long (439721161573 : Int64), .ref 18] (I2, L2) (some (.int 1)) (I3, L3)) : ∃ n, xr_X13_leafOf n (0, [(0, .ref 18)], [], (I, L)) (some (.int (2 : Int32))) (I3, L3) := by
  refine xe_go 1 (s' := (4, [(0, .ref 18)], [.long (1735356005 : Int64), .ref 18], (I, L))) rfl ?_
  refine xe_vir (n := 2) (f := fx_X13_isWord) rfl (Nat.le_of_ble_eq_true rfl) (List.mem_of_getElem? (i := 0) rfl) (Nat.le_of_ble_eq_true rfl) c1 ?_
  refine xe_go 2 (s' := (18, [(0, .ref 18)], [.long (422607680115 : Int64), .ref 18], (I1, L1))) rfl ?_
  refine xe_vir (n := 2) (f := fx_X13_isWord) rfl (Nat.le_of_ble_eq_true rfl) (List.mem_of_getElem? (i := 0) rfl) (Nat.le_of_ble_eq_true rfl) c2 ?_
  refine xe_go 2 (s' := (32, [(0, .ref 18)], [.long (439721161573 : Int64), .ref 18], (I2, L2))) rfl ?_
  refine xe_vir (n := 2) (f := fx_X13_isWord) rfl (Nat.le_of_ble_eq_true rfl) (List.mem_of_getElem? (i := 0) rfl) (Nat.le_of_ble_eq_true rfl) c3 ?_
  refine xe_go 2 (s' := (115, [(0, .ref 18)], [.int (2 : Int32)], (I3, L3))) rfl ?_
  exact xe_end rfl rfl rfl
set_option maxRecDepth 100000 in
theorem pt_X13_leafOf_3 {I I1 I2 I3 I4 : Nat → Nat → Int32} {L L1 L2 L3 L4 : Nat → Nat → Int64} (c1 : fx_X13_isWord [.long (1735356005 : Int64), .ref 18] (I, L) (some (.int 0)) (I1, L1)) (c2 : fx_X13_isWord [.long (422607680115 : Int64), .ref 18] (I1, L1) (some (.int 0)) (I2, L2)) (c3 : fx_X13_isWord [.long (439721161573 : Int64), .ref 18] (I2, L2) (some (.int 0)) (I3, L3)) (c4 : fx_X13_isWord [.long (28518 : Int64), .ref 18] (I3, L3) (some (.int 1)) (I4, L4)) : ∃ n, xr_X13_leafOf n (0, [(0, .ref 18)], [], (I, L)) (some (.int (3 : Int32))) (I4, L4) := by
  refine xe_go 1 (s' := (4, [(0, .ref 18)], [.long (1735356005 : Int64), .ref 18], (I, L))) rfl ?_
  refine xe_vir (n := 2) (f := fx_X13_isWord) rfl (Nat.le_of_ble_eq_true rfl) (List.mem_of_getElem? (i := 0) rfl) (Nat.le_of_ble_eq_true rfl) c1 ?_
  refine xe_go 2 (s' := (18, [(0, .ref 18)], [.long (422607680115 : Int64), .ref 18], (I1, L1))) rfl ?_
  refine xe_vir (n := 2) (f := fx_X13_isWord) rfl (Nat.le_of_ble_eq_true rfl) (List.mem_of_getElem? (i := 0) rfl) (Nat.le_of_ble_eq_true rfl) c2 ?_
  refine xe_go 2 (s' := (32, [(0, .ref 18)], [.long (439721161573 : Int64), .ref 18], (I2, L2))) rfl ?_
  refine xe_vir (n := 2) (f := fx_X13_isWord) rfl (Nat.le_of_ble_eq_true rfl) (List.mem_of_getElem? (i := 0) rfl) (Nat.le_of_ble_eq_true rfl) c3 ?_
  refine xe_go 2 (s' := (46, [(0, .ref 18)], [.long (28518 : Int64), .ref 18], (I3, L3))) rfl ?_
  refine xe_vir (n := 2) (f := fx_X13_isWord) rfl (Nat.le_of_ble_eq_true rfl) (List.mem_of_getElem? (i := 0) rfl) (Nat.le_of_ble_eq_true rfl) c4 ?_
  refine xe_go 2 (s' := (115, [(0, .ref 18)], [.int (3 : Int32)], (I4, L4))) rfl ?_
  exact xe_end rfl rfl rfl
set_option maxRecDepth 100000 in
theorem pt_X13_leafOf_4 {I I1 I2 I3 I4 I5 : Nat → Nat → Int32} {L L1 L2 L3 L4 L5 : Nat → Nat → Int64} (c1 : fx_X13_isWord [.long (1735356005 : Int64), .ref 18] (I, L) (some (.int 0)) (I1, L1)) (c2 : fx_X13_isWord [.long (422607680115 : Int64), .ref 18] (I1, L1) (some (.int 0)) (I2, L2)) (c3 : fx_X13_isWord [.long (439721161573 : Int64), .ref 18] (I2, L2) (some (.int 0)) (I3, L3)) (c4 : fx_X13_isWord [.long (28518 : Int64), .ref 18] (I3, L3) (some (.int 0)) (I4, L4)) (c5 : fx_X13_isWord [.long (1819242087 : Int64), .ref 18] (I4, L4) (some (.int 1)) (I5, L5)) : ∃ n, xr_X13_leafOf n (0, [(0, .ref 18)], [], (I, L)) (some (.int (4 : Int32))) (I5, L5) := by
  refine xe_go 1 (s' := (4, [(0, .ref 18)], [.long (1735356005 : Int64), .ref 18], (I, L))) rfl ?_
  refine xe_vir (n := 2) (f := fx_X13_isWord) rfl (Nat.le_of_ble_eq_true rfl) (List.mem_of_getElem? (i := 0) rfl) (Nat.le_of_ble_eq_true rfl) c1 ?_
  refine xe_go 2 (s' := (18, [(0, .ref 18)], [.long (422607680115 : Int64), .ref 18], (I1, L1))) rfl ?_
  refine xe_vir (n := 2) (f := fx_X13_isWord) rfl (Nat.le_of_ble_eq_true rfl) (List.mem_of_getElem? (i := 0) rfl) (Nat.le_of_ble_eq_true rfl) c2 ?_
  refine xe_go 2 (s' := (32, [(0, .ref 18)], [.long (439721161573 : Int64), .ref 18], (I2, L2))) rfl ?_
  refine xe_vir (n := 2) (f := fx_X13_isWord) rfl (Nat.le_of_ble_eq_true rfl) (List.mem_of_getElem? (i := 0) rfl) (Nat.le_of_ble_eq_true rfl) c3 ?_
  refine xe_go 2 (s' := (46, [(0, .ref 18)], [.long (28518 : Int64), .ref 18], (I3, L3))) rfl ?_
  refine xe_vir (n := 2) (f := fx_X13_isWord) rfl (Nat.le_of_ble_eq_true rfl) (List.mem_of_getElem? (i := 0) rfl) (Nat.le_of_ble_eq_true rfl) c4 ?_
  refine xe_go 2 (s' := (60, [(0, .ref 18)], [.long (1819242087 : Int64), .ref 18], (I4, L4))) rfl ?_
  refine xe_vir (n := 2) (f := fx_X13_isWord) rfl (Nat.le_of_ble_eq_true rfl) (List.mem_of_getElem? (i := 0) rfl) (Nat.le_of_ble_eq_true rfl) c5 ?_
  refine xe_go 2 (s' := (115, [(0, .ref 18)], [.int (4 : Int32)], (I5, L5))) rfl ?_
  exact xe_end rfl rfl rfl
set_option maxRecDepth 100000 in
theorem pt_X13_leafOf_5 {I I1 I2 I3 I4 I5 I6 : Nat → Nat → Int32} {L L1 L2 L3 L4 L5 L6 : Nat → Nat → Int64} (c1 : fx_X13_isWord [.long (1735356005 : Int64), .ref 18] (I, L) (some (.int 0)) (I1, L1)) (c2 : fx_X13_isWord [.long (422607680115 : Int64), .ref 18] (I1, L1) (some (.int 0)) (I2, L2)) (c3 : fx_X13_isWord [.long (439721161573 : Int64), .ref 18] (I2, L2) (some (.int 0)) (I3, L3)) (c4 : fx_X13_isWord [.long (28518 : Int64), .ref 18] (I3, L3) (some (.int 0)) (I4, L4)) (c5 : fx_X13_isWord [.long (1819242087 : Int64), .ref 18] (I4, L4) (some (.int 0)) (I5, L5)) (c6 : fx_X13_isWord [.long (465726040947 : Int64), .ref 18] (I5, L5) (some (.int 1)) (I6, L6)) : ∃ n, xr_X13_leafOf n (0, [(0, .ref 18)], [], (I, L)) (some (.int (5 : Int32))) (I6, L6) := by
  refine xe_go 1 (s' := (4, [(0, .ref 18)], [.long (1735356005 : Int64), .ref 18], (I, L))) rfl ?_
  refine xe_vir (n := 2) (f := fx_X13_isWord) rfl (Nat.le_of_ble_eq_true rfl) (List.mem_of_getElem? (i := 0) rfl) (Nat.le_of_ble_eq_true rfl) c1 ?_
  refine xe_go 2 (s' := (18, [(0, .ref 18)], [.long (422607680115 : Int64), .ref 18], (I1, L1))) rfl ?_
  refine xe_vir (n := 2) (f := fx_X13_isWord) rfl (Nat.le_of_ble_eq_true rfl) (List.mem_of_getElem? (i := 0) rfl) (Nat.le_of_ble_eq_true rfl) c2 ?_
  refine xe_go 2 (s' := (32, [(0, .ref 18)], [.long (439721161573 : Int64), .ref 18], (I2, L2))) rfl ?_
  refine xe_vir (n := 2) (f := fx_X13_isWord) rfl (Nat.le_of_ble_eq_true rfl) (List.mem_of_getElem? (i := 0) rfl) (Nat.le_of_ble_eq_true rfl) c3 ?_
  refine xe_go 2 (s' := (46, [(0, .ref 18)], [.long (28518 : Int64), .ref 18], (I3, L3))) rfl ?_
  refine xe_vir (n := 2) (f := fx_X13_isWord) rfl (Nat.le_of_ble_eq_true rfl) (List.mem_of_getElem? (i := 0) rfl) (Nat.le_of_ble_eq_true rfl) c4 ?_
  refine xe_go 2 (s' := (60, [(0, .ref 18)], [.long (1819242087 : Int64), .ref 18], (I4, L4))) rfl ?_
  refine xe_vir (n := 2) (f := fx_X13_isWord) rfl (Nat.le_of_ble_eq_true rfl) (List.mem_of_getElem? (i := 0) rfl) (Nat.le_of_ble_eq_true rfl) c5 ?_
  refine xe_go 2 (s' := (74, [(0, .ref 18)], [.long (465726040947 : Int64), .ref 18], (I5, L5))) rfl ?_
  refine xe_vir (n := 2) (f := fx_X13_isWord) rfl (Nat.le_of_ble_eq_true rfl) (List.mem_of_getElem? (i := 0) rfl) (Nat.le_of_ble_eq_true rfl) c6 ?_
  refine xe_go 2 (s' := (115, [(0, .ref 18)], [.int (5 : Int32)], (I6, L6))) rfl ?_
  exact xe_end rfl rfl rfl
set_option maxRecDepth 100000 in
theorem pt_X13_leafOf_6 {I I1 I2 I3 I4 I5 I6 I7 : Nat → Nat → Int32} {L L1 L2 L3 L4 L5 L6 L7 : Nat → Nat → Int64} (c1 : fx_X13_isWord [.long (1735356005 : Int64), .ref 18] (I, L) (some (.int 0)) (I1, L1)) (c2 : fx_X13_isWord [.long (422607680115 : Int64), .ref 18] (I1, L1) (some (.int 0)) (I2, L2)) (c3 : fx_X13_isWord [.long (439721161573 : Int64), .ref 18] (I2, L2) (some (.int 0)) (I3, L3)) (c4 : fx_X13_isWord [.long (28518 : Int64), .ref 18] (I3, L3) (some (.int 0)) (I4, L4)) (c5 : fx_X13_isWord [.long (1819242087 : Int64), .ref 18] (I4, L4) (some (.int 0)) (I5, L5)) (c6 : fx_X13_isWord [.long (465726040947 : Int64), .ref 18] (I5, L5) (some (.int 0)) (I6, L6)) (c7 : fx_X13_isWord [.long (512970880104 : Int64), .ref 18] (I6, L6) (some (.int 1)) (I7, L7)) : ∃ n, xr_X13_leafOf n (0, [(0, .ref 18)], [], (I, L)) (some (.int (6 : Int32))) (I7, L7) := by
  refine xe_go 1 (s' := (4, [(0, .ref 18)], [.long (1735356005 : Int64), .ref 18], (I, L))) rfl ?_
  refine xe_vir (n := 2) (f := fx_X13_isWord) rfl (Nat.le_of_ble_eq_true rfl) (List.mem_of_getElem? (i := 0) rfl) (Nat.le_of_ble_eq_true rfl) c1 ?_
  refine xe_go 2 (s' := (18, [(0, .ref 18)], [.long (422607680115 : Int64), .ref 18], (I1, L1))) rfl ?_
  refine xe_vir (n := 2) (f := fx_X13_isWord) rfl (Nat.le_of_ble_eq_true rfl) (List.mem_of_getElem? (i := 0) rfl) (Nat.le_of_ble_eq_true rfl) c2 ?_
  refine xe_go 2 (s' := (32, [(0, .ref 18)], [.long (439721161573 : Int64), .ref 18], (I2, L2))) rfl ?_
  refine xe_vir (n := 2) (f := fx_X13_isWord) rfl (Nat.le_of_ble_eq_true rfl) (List.mem_of_getElem? (i := 0) rfl) (Nat.le_of_ble_eq_true rfl) c3 ?_
  refine xe_go 2 (s' := (46, [(0, .ref 18)], [.long (28518 : Int64), .ref 18], (I3, L3))) rfl ?_
  refine xe_vir (n := 2) (f := fx_X13_isWord) rfl (Nat.le_of_ble_eq_true rfl) (List.mem_of_getElem? (i := 0) rfl) (Nat.le_of_ble_eq_true rfl) c4 ?_
  refine xe_go 2 (s' := (60, [(0, .ref 18)], [.long (1819242087 : Int64), .ref 18], (I4, L4))) rfl ?_
  refine xe_vir (n := 2) (f := fx_X13_isWord) rfl (Nat.le_of_ble_eq_true rfl) (List.mem_of_getElem? (i := 0) rfl) (Nat.le_of_ble_eq_true rfl) c5 ?_
  refine xe_go 2 (s' := (74, [(0, .ref 18)], [.long (465726040947 : Int64), .ref 18], (I5, L5))) rfl ?_
  refine xe_vir (n := 2) (f := fx_X13_isWord) rfl (Nat.le_of_ble_eq_true rfl) (List.mem_of_getElem? (i := 0) rfl) (Nat.le_of_ble_eq_true rfl) c6 ?_
  refine xe_go 2 (s' := (88, [(0, .ref 18)], [.long (512970880104 : Int64), .ref 18], (I6, L6))) rfl ?_
  refine xe_vir (n := 2) (f := fx_X13_isWord) rfl (Nat.le_of_ble_eq_true rfl) (List.mem_of_getElem? (i := 0) rfl) (Nat.le_of_ble_eq_true rfl) c7 ?_
  refine xe_go 2 (s' := (115, [(0, .ref 18)], [.int (6 : Int32)], (I7, L7))) rfl ?_
  exact xe_end rfl rfl rfl
set_option maxRecDepth 100000 in
theorem pt_X13_leafOf_7 {I I1 I2 I3 I4 I5 I6 I7 I8 : Nat → Nat → Int32} {L L1 L2 L3 L4 L5 L6 L7 L8 : Nat → Nat → Int64} (c1 : fx_X13_isWord [.long (1735356005 : Int64), .ref 18] (I, L) (some (.int 0)) (I1, L1)) (c2 : fx_X13_isWord [.long (422607680115 : Int64), .ref 18] (I1, L1) (some (.int 0)) (I2, L2)) (c3 : fx_X13_isWord [.long (439721161573 : Int64), .ref 18] (I2, L2) (some (.int 0)) (I3, L3)) (c4 : fx_X13_isWord [.long (28518 : Int64), .ref 18] (I3, L3) (some (.int 0)) (I4, L4)) (c5 : fx_X13_isWord [.long (1819242087 : Int64), .ref 18] (I4, L4) (some (.int 0)) (I5, L5)) (c6 : fx_X13_isWord [.long (465726040947 : Int64), .ref 18] (I5, L5) (some (.int 0)) (I6, L6)) (c7 : fx_X13_isWord [.long (512970880104 : Int64), .ref 18] (I6, L6) (some (.int 0)) (I7, L7)) (c8 : fx_X13_isWord [.long (121450625394034 : Int64), .ref 18] (I7, L7) (some (.int 1)) (I8, L8)) : ∃ n, xr_X13_leafOf n (0, [(0, .ref 18)], [], (I, L)) (some (.int (7 : Int32))) (I8, L8) := by
  refine xe_go 1 (s' := (4, [(0, .ref 18)], [.long (1735356005 : Int64), .ref 18], (I, L))) rfl ?_
  refine xe_vir (n := 2) (f := fx_X13_isWord) rfl (Nat.le_of_ble_eq_true rfl) (List.mem_of_getElem? (i := 0) rfl) (Nat.le_of_ble_eq_true rfl) c1 ?_
  refine xe_go 2 (s' := (18, [(0, .ref 18)], [.long (422607680115 : Int64), .ref 18], (I1, L1))) rfl ?_
  refine xe_vir (n := 2) (f := fx_X13_isWord) rfl (Nat.le_of_ble_eq_true rfl) (List.mem_of_getElem? (i := 0) rfl) (Nat.le_of_ble_eq_true rfl) c2 ?_
  refine xe_go 2 (s' := (32, [(0, .ref 18)], [.long (439721161573 : Int64), .ref 18], (I2, L2))) rfl ?_
  refine xe_vir (n := 2) (f := fx_X13_isWord) rfl (Nat.le_of_ble_eq_true rfl) (List.mem_of_getElem? (i := 0) rfl) (Nat.le_of_ble_eq_true rfl) c3 ?_
  refine xe_go 2 (s' := (46, [(0, .ref 18)], [.long (28518 : Int64), .ref 18], (I3, L3))) rfl ?_
  refine xe_vir (n := 2) (f := fx_X13_isWord) rfl (Nat.le_of_ble_eq_true rfl) (List.mem_of_getElem? (i := 0) rfl) (Nat.le_of_ble_eq_true rfl) c4 ?_
  refine xe_go 2 (s' := (60, [(0, .ref 18)], [.long (1819242087 : Int64), .ref 18], (I4, L4))) rfl ?_
  refine xe_vir (n := 2) (f := fx_X13_isWord) rfl (Nat.le_of_ble_eq_true rfl) (List.mem_of_getElem? (i := 0) rfl) (Nat.le_of_ble_eq_true rfl) c5 ?_
  refine xe_go 2 (s' := (74, [(0, .ref 18)], [.long (465726040947 : Int64), .ref 18], (I5, L5))) rfl ?_
  refine xe_vir (n := 2) (f := fx_X13_isWord) rfl (Nat.le_of_ble_eq_true rfl) (List.mem_of_getElem? (i := 0) rfl) (Nat.le_of_ble_eq_true rfl) c6 ?_
  refine xe_go 2 (s' := (88, [(0, .ref 18)], [.long (512970880104 : Int64), .ref 18], (I6, L6))) rfl ?_
  refine xe_vir (n := 2) (f := fx_X13_isWord) rfl (Nat.le_of_ble_eq_true rfl) (List.mem_of_getElem? (i := 0) rfl) (Nat.le_of_ble_eq_true rfl) c7 ?_
  refine xe_go 2 (s' := (103, [(0, .ref 18)], [.long (121450625394034 : Int64), .ref 18], (I7, L7))) rfl ?_
  refine xe_vir (n := 2) (f := fx_X13_isWord) rfl (Nat.le_of_ble_eq_true rfl) (List.mem_of_getElem? (i := 0) rfl) (Nat.le_of_ble_eq_true rfl) c8 ?_
  refine xe_go 2 (s' := (115, [(0, .ref 18)], [.int (7 : Int32)], (I8, L8))) rfl ?_
  exact xe_end rfl rfl rfl
set_option maxRecDepth 100000 in
theorem pt_X13_leafOf_8 {I I1 I2 I3 I4 I5 I6 I7 I8 : Nat → Nat → Int32} {L L1 L2 L3 L4 L5 L6 L7 L8 : Nat → Nat → Int64} (c1 : fx_X13_isWord [.long (1735356005 : Int64), .ref 18] (I, L) (some (.int 0)) (I1, L1)) (c2 : fx_X13_isWord [.long (422607680115 : Int64), .ref 18] (I1, L1) (some (.int 0)) (I2, L2)) (c3 : fx_X13_isWord [.long (439721161573 : Int64), .ref 18] (I2, L2) (some (.int 0)) (I3, L3)) (c4 : fx_X13_isWord [.long (28518 : Int64), .ref 18] (I3, L3) (some (.int 0)) (I4, L4)) (c5 : fx_X13_isWord [.long (1819242087 : Int64), .ref 18] (I4, L4) (some (.int 0)) (I5, L5)) (c6 : fx_X13_isWord [.long (465726040947 : Int64), .ref 18] (I5, L5) (some (.int 0)) (I6, L6)) (c7 : fx_X13_isWord [.long (512970880104 : Int64), .ref 18] (I6, L6) (some (.int 0)) (I7, L7)) (c8 : fx_X13_isWord [.long (121450625394034 : Int64), .ref 18] (I7, L7) (some (.int 0)) (I8, L8)) : ∃ n, xr_X13_leafOf n (0, [(0, .ref 18)], [], (I, L)) (some (.int (Int32.ofInt (-1)))) (I8, L8) := by
  refine xe_go 1 (s' := (4, [(0, .ref 18)], [.long (1735356005 : Int64), .ref 18], (I, L))) rfl ?_
  refine xe_vir (n := 2) (f := fx_X13_isWord) rfl (Nat.le_of_ble_eq_true rfl) (List.mem_of_getElem? (i := 0) rfl) (Nat.le_of_ble_eq_true rfl) c1 ?_
  refine xe_go 2 (s' := (18, [(0, .ref 18)], [.long (422607680115 : Int64), .ref 18], (I1, L1))) rfl ?_
  refine xe_vir (n := 2) (f := fx_X13_isWord) rfl (Nat.le_of_ble_eq_true rfl) (List.mem_of_getElem? (i := 0) rfl) (Nat.le_of_ble_eq_true rfl) c2 ?_
  refine xe_go 2 (s' := (32, [(0, .ref 18)], [.long (439721161573 : Int64), .ref 18], (I2, L2))) rfl ?_
  refine xe_vir (n := 2) (f := fx_X13_isWord) rfl (Nat.le_of_ble_eq_true rfl) (List.mem_of_getElem? (i := 0) rfl) (Nat.le_of_ble_eq_true rfl) c3 ?_
  refine xe_go 2 (s' := (46, [(0, .ref 18)], [.long (28518 : Int64), .ref 18], (I3, L3))) rfl ?_
  refine xe_vir (n := 2) (f := fx_X13_isWord) rfl (Nat.le_of_ble_eq_true rfl) (List.mem_of_getElem? (i := 0) rfl) (Nat.le_of_ble_eq_true rfl) c4 ?_
  refine xe_go 2 (s' := (60, [(0, .ref 18)], [.long (1819242087 : Int64), .ref 18], (I4, L4))) rfl ?_
  refine xe_vir (n := 2) (f := fx_X13_isWord) rfl (Nat.le_of_ble_eq_true rfl) (List.mem_of_getElem? (i := 0) rfl) (Nat.le_of_ble_eq_true rfl) c5 ?_
  refine xe_go 2 (s' := (74, [(0, .ref 18)], [.long (465726040947 : Int64), .ref 18], (I5, L5))) rfl ?_
  refine xe_vir (n := 2) (f := fx_X13_isWord) rfl (Nat.le_of_ble_eq_true rfl) (List.mem_of_getElem? (i := 0) rfl) (Nat.le_of_ble_eq_true rfl) c6 ?_
  refine xe_go 2 (s' := (88, [(0, .ref 18)], [.long (512970880104 : Int64), .ref 18], (I6, L6))) rfl ?_
  refine xe_vir (n := 2) (f := fx_X13_isWord) rfl (Nat.le_of_ble_eq_true rfl) (List.mem_of_getElem? (i := 0) rfl) (Nat.le_of_ble_eq_true rfl) c7 ?_
  refine xe_go 2 (s' := (103, [(0, .ref 18)], [.long (121450625394034 : Int64), .ref 18], (I7, L7))) rfl ?_
  refine xe_vir (n := 2) (f := fx_X13_isWord) rfl (Nat.le_of_ble_eq_true rfl) (List.mem_of_getElem? (i := 0) rfl) (Nat.le_of_ble_eq_true rfl) c8 ?_
  refine xe_go 1 (s' := (115, [(0, .ref 18)], [.int (Int32.ofInt (-1))], (I8, L8))) rfl ?_
  exact xe_end rfl rfl rfl
def xi_X13_operand : List (Nat × Nat × Instr) := [(0, 1, .aload_n 0), (1, 3, .ldc2_w 112), (4, 3, .invokevirtual 193), (7, 1, .istore_n 1), (8, 1, .aload_n 0), (9, 2, .bipush 40), (11, 3, .invokevirtual 165), (14, 1, .istore_n 2), (15, 1, .aload_n 0), (16, 3, .invokevirtual 428), (19, 1, .istore_n 3), (20, 1, .iload_n 1), (21, 3, .ifCond .ne 17), (24, 1, .iload_n 2), (25, 3, .ifCond .ne 13), (28, 1, .iload_n 3), (29, 3, .ifCond .ge 9), (32, 1, .aload_n 0), (33, 1, .iconst 1), (34, 3, .invokevirtual 168), (37, 1, .ireturn), (38, 1, .aload_n 0), (39, 3, .getfield 431), (42, 2, .bipush 20), (44, 3, .if_icmp .eq 12), (47, 1, .aload_n 0), (48, 3, .getfield 425), (51, 2, .bipush 8), (53, 3, .if_icmp .le 9), (56, 1, .aload_n 0), (57, 1, .iconst 4), (58, 3, .invokevirtual 168), (61, 1, .ireturn), (62, 1, .aload_n 0), (63, 1, .dup), (64, 3, .getfield 431), (67, 1, .iconst 1), (68, 1, .iadd), (69, 3, .putfield 431), (72, 1, .aload_n 0), (73, 3, .invokevirtual 171), (76, 1, .iload_n 1), (77, 3, .ifCond .ne 7), (80, 1, .iload_n 2), (81, 3, .ifCond .eq 45), (84, 1, .aload_n 0), (85, 3, .getfield 68), (88, 1, .aload_n 0), (89, 3, .getfield 419), (92, 1, .iload_n 1), (93, 3, .ifCond .eq 8), (96, 2, .bipush 20), (98, 3, .goto 5), (101, 2, .bipush 23), (103, 1, .iastore), (104, 1, .aload_n 0), (105, 1, .dup), (106, 3, .getfield 419), (109, 1, .iconst 1), (110, 1, .iadd), (111, 3, .putfield 419), (114, 1, .aload_n 0), (115, 1, .dup), (116, 3, .getfield 425), (119, 1, .iconst 1), (120, 1, .iadd), (121, 3, .putfield 425), (124, 1, .iconst 1), (125, 1, .ireturn), (126, 1, .aload_n 0), (127, 1, .iconst 1), (128, 3, .putfield 434), (131, 1, .iload_n 3), (132, 1, .iconst 3), (133, 3, .if_icmp .ge 12), (136, 1, .aload_n 0), (137, 1, .iload_n 3), (138, 1, .iconst 0), (139, 1, .iconst 0), (140, 3, .invokevirtual 422), (143, 1, .iconst 1), (144, 1, .ireturn), (145, 1, .iload_n 3), (146, 1, .iconst 3), (147, 3, .if_icmp .ne 35), (150, 1, .aload_n 0), (151, 1, .iconst 0), (152, 1, .aload_n 0), (153, 3, .getfield 33), (156, 1, .iconst 0), (157, 1, .iaload), (158, 3, .invokevirtual 189), (161, 3, .ifCond .ne 5), (164, 1, .iconst 0), (165, 1, .ireturn), (166, 1, .aload_n 0), (167, 1, .iload_n 3), (168, 1, .iconst 0), (169, 1, .aload_n 0), (170, 3, .getfield 178), (173, 3, .invokevirtual 422), (176, 1, .aload_n 0), (177, 3, .invokevirtual 171), (180, 1, .iconst 1), (181, 1, .ireturn), (182, 1, .aload_n 0), (183, 3, .getfield 140), (186, 1, .iconst 3), (187, 3, .if_icmp .ne 21), (190, 1, .aload_n 0), (191, 3, .getfield 150), (194, 2, .bipush 60), (196, 3, .if_icmp .lt 12), (199, 1, .aload_n 0), (200, 3, .getfield 150), (203, 2, .bipush 62), (205, 3, .if_icmp .le 9), (208, 1, .aload_n 0), (209, 1, .iconst 1), (210, 3, .invokevirtual 168), (213, 1, .ireturn), (214, 1, .aload_n 0), (215, 3, .getfield 150), (218, 2, .istore 4), (220, 1, .aload_n 0), (221, 3, .invokevirtual 171), (224, 1, .aload_n 0), (225, 3, .getfield 140), (228, 1, .iconst 2), (229, 3, .if_icmp .eq 9), (232, 1, .aload_n 0), (233, 1, .iconst 1), (234, 3, .invokevirtual 168), (237, 1, .ireturn), (238, 1, .aload_n 0), (239, 1, .iload_n 3), (240, 2, .iload 4), (242, 1, .aload_n 0), (243, 3, .getfield 150), (246, 3, .invokevirtual 422), (249, 1, .aload_n 0), (250, 3, .invokevirtual 171), (253, 1, .iconst 1), (254, 1, .ireturn)]
def xg_X13_operand : zf_ft := [(431, 11, 39, .inl (0, 0)), (425, 11, 41, .inl (0, 0)), (68, 11, 37, .inl (0, 0)), (419, 11, 40, .inl (0, 0)), (33, 11, 6, .inl (0, 0)), (178, 11, 18, .inl (0, 0)), (140, 11, 11, .inl (0, 0)), (150, 11, 14, .inl (0, 0))]
def xp_X13_operand : zf_ft := [(431, 11, 39, .inl ((-2147483648), 2147483647)), (419, 11, 40, .inl ((-2147483648), 2147483647)), (425, 11, 41, .inl ((-2147483648), 2147483647)), (434, 11, 42, .inl (0, 1))]
def xv_X13_operand : List (Nat × Nat × xe_F) := [(193, 2, fx_X13_isWord), (165, 2, fx_X13_isSign), (428, 1, fx_X13_leafOf), (168, 2, fx_X13_bad), (171, 1, fx_X13_next), (422, 4, fx_X13_code), (189, 3, fx_X13_looksAt)]
def xt_X13_operand : List (Nat × Nat × xe_F) := []
abbrev xr_X13_operand := xe_run xGT xSC xRF 5 xg_X13_operand xp_X13_operand [] [(112, 7237492)] (xv_X13_operand) xt_X13_operand xi_X13_operand
def fx_X13_operand : xe_F := fun us hp v hp' => (us.map fun v => v.category).sum ≤ 5 ∧ xe_rt (some .boolean) v ∧ (∃ ar, us = ar ++ [.ref 18]) ∧ ∃ n, xr_X13_operand n (0, xe_ag 0 us.reverse, [], hp) v hp'
theorem mk_X13_operand  {hp hp' : xe_H} {v : Option Value} (hr : xe_rt (some .boolean) v) (h : ∃ n, xr_X13_operand n (0, [(0, .ref 18)], [], hp) v hp') : fx_X13_operand [.ref 18] hp v hp' := ⟨Nat.le_of_ble_eq_true rfl, hr, ⟨[], rfl⟩, h⟩
theorem hx_X13_operand : ∀ us hp v hp', fx_X13_operand us hp v hp' → (us.map fun v => v.category).sum ≤ 5 ∧ xe_rt (some .boolean) v ∧ ∃ n, xr_X13_operand n (0, xe_ag 0 us.reverse, [], hp) v hp' := fun us hp v hp' h => ⟨h.1, h.2.1, h.2.2.2⟩
theorem fr_X13_operand : ∀ us hp v hp', fx_X13_operand us hp v hp' → ∃ ar, us = ar ++ [.ref 18] := fun us hp v hp' h => h.2.2.1
set_option maxRecDepth 100000 in
set_option maxHeartbeats 4000000 in
theorem kx_X13_operand (l : Launch) (D : va_G) (k : Nat → ClassId) (B0 : Nat) (ad : Nat → Nat) (al sw : Nat) : xe_Con l yX13_operand (zw yX13_operand cX13_operand 5 (some .boolean)) ({ frames := 2, cells := 0, slots := 0, locals := 45 }) D k ad (zEx B0 ad al sw) xGT xSC xRF (fx_X13_operand) := by
  have hEx := zEx_ok B0 ad al sw
  refine xe_mk (cc := cX13_operand) (nL := 5) (ret := (some .boolean)) (fg := xg_X13_operand) (fp := xp_X13_operand) (sg := []) (lc := [(112, 7237492)]) (cv := xv_X13_operand) (cs := xt_X13_operand) (ins := xi_X13_operand) (by decide) rfl hEx (by decide +kernel) hx_X13_operand ?_
  intro p e s m args below meth c Q Sg w0 A θ S hK hE hAB hA hth
  refine ⟨?_, ?_, ?_, ?_, ?_, ?_⟩
  · exact zf_ac ((fun H locs ws a q0 fs v rest pc ls hP he hv hdg kk => va_get (D := D) (ci := 11) (C := RX13) (T := TX13) (N := 47) (own := RX13) S.1 S.2.1 S.2.2.2.2 (zg_in inW_X13) S.2.2.2.1 hK hP q0 he rfl 39 (by decide) (S.2.2.2.2 (.fieldLink RX13 431 "RungMoneyModel" "ones" "I") (List.mem_cons_of_mem _ zw_1387)) (fun _ h9 => h9) hv hdg kk)) (zf_ac ((fun H locs ws a q0 fs v rest pc ls hP he hv hdg kk => va_get (D := D) (ci := 11) (C := RX13) (T := TX13) (N := 47) (own := RX13) S.1 S.2.1 S.2.2.2.2 (zg_in inW_X13) S.2.2.2.1 hK hP q0 he rfl 41 (by decide) (S.2.2.2.2 (.fieldLink RX13 425 "RungMoneyModel" "deep" "I") (List.mem_cons_of_mem _ zw_1389)) (fun _ h9 => h9) hv hdg kk)) (zf_ac ((fun H locs ws a q0 fs v rest pc ls hP he hv hdg kk => va_get (D := D) (ci := 11) (C := RX13) (T := TX13) (N := 47) (own := RX13) S.1 S.2.1 S.2.2.2.2 (zg_in inW_X13) S.2.2.2.1 hK hP q0 he rfl 37 (by decide) (S.2.2.2.2 (.fieldLink RX13 68 "RungMoneyModel" "stack" "[I") (List.mem_cons_of_mem _ zw_1385)) (fun _ h9 => h9) hv hdg kk)) (zf_ac ((fun H locs ws a q0 fs v rest pc ls hP he hv hdg kk => va_get (D := D) (ci := 11) (C := RX13) (T := TX13) (N := 47) (own := RX13) S.1 S.2.1 S.2.2.2.2 (zg_in inW_X13) S.2.2.2.1 hK hP q0 he rfl 40 (by decide) (S.2.2.2.2 (.fieldLink RX13 419 "RungMoneyModel" "top" "I") (List.mem_cons_of_mem _ zw_1388)) (fun _ h9 => h9) hv hdg kk)) (zf_ac ((fun H locs ws a q0 fs v rest pc ls hP he hv hdg kk => va_get (D := D) (ci := 11) (C := RX13) (T := TX13) (N := 47) (own := RX13) S.1 S.2.1 S.2.2.2.2 (zg_in inW_X13) S.2.2.2.1 hK hP q0 he rfl 6 (by decide) (S.2.2.2.2 (.fieldLink RX13 33 "RungMoneyModel" "s" "[I") (List.mem_cons_of_mem _ zw_1354)) (fun _ h9 => h9) hv hdg kk)) (zf_ac ((fun H locs ws a q0 fs v rest pc ls hP he hv hdg kk => va_get (D := D) (ci := 11) (C := RX13) (T := TX13) (N := 47) (own := RX13) S.1 S.2.1 S.2.2.2.2 (zg_in inW_X13) S.2.2.2.1 hK hP q0 he rfl 18 (by decide) (S.2.2.2.2 (.fieldLink RX13 178 "RungMoneyModel" "got" "I") (List.mem_cons_of_mem _ zw_1366)) (fun _ h9 => h9) hv hdg kk)) (zf_ac ((fun H locs ws a q0 fs v rest pc ls hP he hv hdg kk => va_get (D := D) (ci := 11) (C := RX13) (T := TX13) (N := 47) (own := RX13) S.1 S.2.1 S.2.2.2.2 (zg_in inW_X13) S.2.2.2.1 hK hP q0 he rfl 11 (by decide) (S.2.2.2.2 (.fieldLink RX13 140 "RungMoneyModel" "token" "I") (List.mem_cons_of_mem _ zw_1359)) (fun _ h9 => h9) hv hdg kk)) (zf_ac ((fun H locs ws a q0 fs v rest pc ls hP he hv hdg kk => va_get (D := D) (ci := 11) (C := RX13) (T := TX13) (N := 47) (own := RX13) S.1 S.2.1 S.2.2.2.2 (zg_in inW_X13) S.2.2.2.1 hK hP q0 he rfl 14 (by decide) (S.2.2.2.2 (.fieldLink RX13 150 "RungMoneyModel" "number" "I") (List.mem_cons_of_mem _ zw_1362)) (fun _ h9 => h9) hv hdg kk)) zf_an)))))))
  · exact zf_ac ((fun H locs ws a q0 fs v rest pc ls hP hD hS he hl hv hdg kk => by obtain ⟨x, rfl, h1, h2⟩ := hv; exact va_put (D := D) (ci := 11) (v := .int x) (ty := .int) (C := RX13) (T := TX13) (N := 47) (own := RX13) S.1 S.2.1 S.2.2.2.2 (zg_in inW_X13) tyX13 tyX13_ok nmX13 S.2.2.2.1 hK hP hD hS q0 he rfl 39 (by decide) (S.2.2.2.2 (.fieldLink RX13 431 "RungMoneyModel" "ones" "I") (List.mem_cons_of_mem _ zw_1387)) (fun _ h9 => h9) rfl (by decide +kernel) rfl rfl hl hdg kk)) (zf_ac ((fun H locs ws a q0 fs v rest pc ls hP hD hS he hl hv hdg kk => by obtain ⟨x, rfl, h1, h2⟩ := hv; exact va_put (D := D) (ci := 11) (v := .int x) (ty := .int) (C := RX13) (T := TX13) (N := 47) (own := RX13) S.1 S.2.1 S.2.2.2.2 (zg_in inW_X13) tyX13 tyX13_ok nmX13 S.2.2.2.1 hK hP hD hS q0 he rfl 40 (by decide) (S.2.2.2.2 (.fieldLink RX13 419 "RungMoneyModel" "top" "I") (List.mem_cons_of_mem _ zw_1388)) (fun _ h9 => h9) rfl (by decide +kernel) rfl rfl hl hdg kk)) (zf_ac ((fun H locs ws a q0 fs v rest pc ls hP hD hS he hl hv hdg kk => by obtain ⟨x, rfl, h1, h2⟩ := hv; exact va_put (D := D) (ci := 11) (v := .int x) (ty := .int) (C := RX13) (T := TX13) (N := 47) (own := RX13) S.1 S.2.1 S.2.2.2.2 (zg_in inW_X13) tyX13 tyX13_ok nmX13 S.2.2.2.1 hK hP hD hS q0 he rfl 41 (by decide) (S.2.2.2.2 (.fieldLink RX13 425 "RungMoneyModel" "deep" "I") (List.mem_cons_of_mem _ zw_1389)) (fun _ h9 => h9) rfl (by decide +kernel) rfl rfl hl hdg kk)) (zf_ac ((fun H locs ws a q0 fs v rest pc ls hP hD hS he hl hv hdg kk => by obtain ⟨x, rfl, h1, h2⟩ := hv; rcases zf_01 h1 h2 with rfl | rfl <;> exact va_put (D := D) (ci := 11) (v := .int _) (ty := .boolean) (C := RX13) (T := TX13) (N := 47) (own := RX13) S.1 S.2.1 S.2.2.2.2 (zg_in inW_X13) tyX13 tyX13_ok nmX13 S.2.2.2.1 hK hP hD hS q0 he rfl 42 (by decide) (S.2.2.2.2 (.fieldLink RX13 434 "RungMoneyModel" "isWhole" "Z") (List.mem_cons_of_mem _ zw_1390)) (fun _ h9 => h9) rfl (by decide +kernel) rfl rfl hl hdg kk)) zf_an)))
  · exact xe_n2
  · exact xe_a3 ((fun H locs rest pc ls hdg kk => lv_ldc2 S.1 S.2.1 S.2.2.2.1 (S.2.2.2.2 (.constantLong RX13 112 7237492) (List.mem_cons_of_mem _ zw_1339)) hdg kk)) xe_n3
  · exact xe_a4 (xe_crV S hEx hE hAB hA hK hth (kx_X13_isWord l D k B0 ad al sw) (cwV 1 S.2.2.2.2 (zg_V zw_1518 zw_1520 zw_30 zw_109 zw_1521) rfl rfl rfl (by decide +kernel) ⟨(Nat.le_of_ble_eq_true rfl), (Nat.le_of_ble_eq_true rfl)⟩) ⟨(Nat.le_of_ble_eq_true rfl), (Nat.le_of_ble_eq_true rfl)⟩ 11 rfl rfl 18 (by decide +kernel) fr_X13_isWord) (xe_a4 (xe_crV S hEx hE hAB hA hK hth (kx_X13_isSign l D k B0 ad al sw) (cwV 1 S.2.2.2.2 (zg_V zw_1568 zw_1570 zw_41 zw_109 zw_1571) rfl rfl rfl (by decide +kernel) ⟨(Nat.le_of_ble_eq_true rfl), (Nat.le_of_ble_eq_true rfl)⟩) ⟨(Nat.le_of_ble_eq_true rfl), (Nat.le_of_ble_eq_true rfl)⟩ 11 rfl rfl 18 (by decide +kernel) fr_X13_isSign) (xe_a4 (xe_crV S hEx hE hAB hA hK hth (kx_X13_leafOf l D k B0 ad al sw) (cwV 0 S.2.2.2.2 (zg_V zw_1929 zw_1931 zw_91 zw_109 zw_1932) rfl rfl rfl (by decide +kernel) ⟨(Nat.le_of_ble_eq_true rfl), (Nat.le_of_ble_eq_true rfl)⟩) ⟨(Nat.le_of_ble_eq_true rfl), (Nat.le_of_ble_eq_true rfl)⟩ 11 rfl rfl 18 (by decide +kernel) fr_X13_leafOf) (xe_a4 (xe_crV S hEx hE hAB hA hK hth (kx_X13_bad l D k B0 ad al sw) (cwV 1 S.2.2.2.2 (zg_V zw_1522 zw_1524 zw_31 zw_109 zw_1525) rfl rfl rfl (by decide +kernel) ⟨(Nat.le_of_ble_eq_true rfl), (Nat.le_of_ble_eq_true rfl)⟩) ⟨(Nat.le_of_ble_eq_true rfl), (Nat.le_of_ble_eq_true rfl)⟩ 11 rfl rfl 18 (by decide +kernel) fr_X13_bad) (xe_a4 (xe_crV S hEx hE hAB hA hK hth (kx_X13_next l D k B0 ad al sw) (cwV 0 S.2.2.2.2 (zg_V zw_1499 zw_1501 zw_27 zw_109 zw_1502) rfl rfl rfl (by decide +kernel) ⟨(Nat.le_of_ble_eq_true rfl), (Nat.le_of_ble_eq_true rfl)⟩) ⟨(Nat.le_of_ble_eq_true rfl), (Nat.le_of_ble_eq_true rfl)⟩ 11 rfl rfl 18 (by decide +kernel) fr_X13_next) (xe_a4 (xe_crV S hEx hE hAB hA hK hth (kx_X13_code l D k B0 ad al sw) (cwV 3 S.2.2.2.2 (zg_V zw_1913 zw_1915 zw_87 zw_109 zw_1916) rfl rfl rfl (by decide +kernel) ⟨(Nat.le_of_ble_eq_true rfl), (Nat.le_of_ble_eq_true rfl)⟩) ⟨(Nat.le_of_ble_eq_true rfl), (Nat.le_of_ble_eq_true rfl)⟩ 11 rfl rfl 18 (by decide +kernel) fr_X13_code) (xe_a4 (xe_crV S hEx hE hAB hA hK hth (kx_X13_looksAt l D k B0 ad al sw) (cwV 2 S.2.2.2.2 (zg_V zw_1538 zw_1540 zw_35 zw_109 zw_1541) rfl rfl rfl (by decide +kernel) ⟨(Nat.le_of_ble_eq_true rfl), (Nat.le_of_ble_eq_true rfl)⟩) ⟨(Nat.le_of_ble_eq_true rfl), (Nat.le_of_ble_eq_true rfl)⟩ 11 rfl rfl 18 (by decide +kernel) fr_X13_looksAt) xe_n4))))))
  · exact xe_n4
set_option maxRecDepth 100000 in
theorem pt_X13_operand_0 {I I1 I2 I3 I4 : Nat → Nat → Int32} {L L1 L2 L3 L4 : Nat → Nat → Int64} {r3 : Int32} (c1 : fx_X13_isWord [.long (7237492 : Int64), .ref 18] (I, L) (some (.int 1)) (I1, L1)) (c2 : fx_X13_isSign [.int (40 : Int32), .ref 18] (I1, L1) (some (.int 1)) (I2, L2)) (c3 : fx_X13_leafOf [.ref 18] (I2, L2) (some (.int r3)) (I3, L3)) (h1 : (xe_cmp .eq (I3 18 39) (20 : Int32)) = true) (c4 : fx_X13_bad [.int (4 : Int32), .ref 18] (I3, L3) (some (.int 0)) (I4, L4)) : ∃ n, xr_X13_operand n (0, [(0, .ref 18)], [], (I, L)) (some (.int 0)) (I4, L4) := by
  refine xe_go 1 (s' := (4, [(0, .ref 18)], [.long (7237492 : Int64), .ref 18], (I, L))) rfl ?_
  refine xe_vir (n := 2) (f := fx_X13_isWord) rfl (Nat.le_of_ble_eq_true rfl) (List.mem_of_getElem? (i := 0) rfl) (Nat.le_of_ble_eq_true rfl) c1 ?_
  refine xe_go 2 (s' := (11, [(0, .ref 18), (1, .int 1)], [.int (40 : Int32), .ref 18], (I1, L1))) rfl ?_
  refine xe_vir (n := 2) (f := fx_X13_isSign) rfl (Nat.le_of_ble_eq_true rfl) (List.mem_of_getElem? (i := 1) rfl) (Nat.le_of_ble_eq_true rfl) c2 ?_
  refine xe_go 1 (s' := (16, [(0, .ref 18), (1, .int 1), (2, .int 1)], [.ref 18], (I2, L2))) rfl ?_
  refine xe_vir (n := 1) (f := fx_X13_leafOf) rfl (Nat.le_of_ble_eq_true rfl) (List.mem_of_getElem? (i := 2) rfl) (Nat.le_of_ble_eq_true rfl) c3 ?_
  refine xe_bT 6 (A := (56, [(0, .ref 18), (1, .int 1), (2, .int 1), (3, .int r3)], [], (I3, L3))) (B := (47, [(0, .ref 18), (1, .int 1), (2, .int 1), (3, .int r3)], [], (I3, L3))) h1 rfl ?_
  refine xe_go 1 (s' := (58, [(0, .ref 18), (1, .int 1), (2, .int 1), (3, .int r3)], [.int (4 : Int32), .ref 18], (I3, L3))) rfl ?_
  refine xe_vir (n := 2) (f := fx_X13_bad) rfl (Nat.le_of_ble_eq_true rfl) (List.mem_of_getElem? (i := 3) rfl) (Nat.le_of_ble_eq_true rfl) c4 ?_
  exact xe_end rfl rfl rfl
set_option maxRecDepth 100000 in
theorem pt_X13_operand_1 {I I1 I2 I3 I4 : Nat → Nat → Int32} {L L1 L2 L3 L4 : Nat → Nat → Int64} {r3 : Int32} (c1 : fx_X13_isWord [.long (7237492 : Int64), .ref 18] (I, L) (some (.int 1)) (I1, L1)) (c2 : fx_X13_isSign [.int (40 : Int32), .ref 18] (I1, L1) (some (.int 1)) (I2, L2)) (c3 : fx_X13_leafOf [.ref 18] (I2, L2) (some (.int r3)) (I3, L3)) (h1 : (xe_cmp .eq (I3 18 39) (20 : Int32)) = false) (h2 : (xe_cmp .le (I3 18 41) (8 : Int32)) = true) (c4 : fx_X13_next [.ref 18] ((xu I3 18 39 ((I3 18 39) + (1 : Int32))), L3) none (I4, L4)) (h3 : xe_ib (I4 18 40) 45 = true) : ∃ n, xr_X13_operand n (0, [(0, .ref 18)], [], (I, L)) (some (.int (1 : Int32))) ((xu (xu (xu I4 31 (((I4 18 40)).toInt.toNat) (20 : Int32)) 18 40 ((I4 18 40) + (1 : Int32))) 18 41 ((I4 18 41) + (1 : Int32))), L4) := by
  refine xe_go 1 (s' := (4, [(0, .ref 18)], [.long (7237492 : Int64), .ref 18], (I, L))) rfl ?_
  refine xe_vir (n := 2) (f := fx_X13_isWord) rfl (Nat.le_of_ble_eq_true rfl) (List.mem_of_getElem? (i := 0) rfl) (Nat.le_of_ble_eq_true rfl) c1 ?_
  refine xe_go 2 (s' := (11, [(0, .ref 18), (1, .int 1)], [.int (40 : Int32), .ref 18], (I1, L1))) rfl ?_
  refine xe_vir (n := 2) (f := fx_X13_isSign) rfl (Nat.le_of_ble_eq_true rfl) (List.mem_of_getElem? (i := 1) rfl) (Nat.le_of_ble_eq_true rfl) c2 ?_
  refine xe_go 1 (s' := (16, [(0, .ref 18), (1, .int 1), (2, .int 1)], [.ref 18], (I2, L2))) rfl ?_
  refine xe_vir (n := 1) (f := fx_X13_leafOf) rfl (Nat.le_of_ble_eq_true rfl) (List.mem_of_getElem? (i := 2) rfl) (Nat.le_of_ble_eq_true rfl) c3 ?_
  refine xe_bF 6 (A := (56, [(0, .ref 18), (1, .int 1), (2, .int 1), (3, .int r3)], [], (I3, L3))) (B := (47, [(0, .ref 18), (1, .int 1), (2, .int 1), (3, .int r3)], [], (I3, L3))) h1 rfl ?_
  refine xe_bT 3 (A := (62, [(0, .ref 18), (1, .int 1), (2, .int 1), (3, .int r3)], [], (I3, L3))) (B := (56, [(0, .ref 18), (1, .int 1), (2, .int 1), (3, .int r3)], [], (I3, L3))) h2 rfl ?_
  refine xe_go 6 (s' := (73, [(0, .ref 18), (1, .int 1), (2, .int 1), (3, .int r3)], [.ref 18], ((xu I3 18 39 ((I3 18 39) + (1 : Int32))), L3))) rfl ?_
  refine xe_vir (n := 1) (f := fx_X13_next) rfl (Nat.le_of_ble_eq_true rfl) (List.mem_of_getElem? (i := 4) rfl) (Nat.le_of_ble_eq_true rfl) c4 ?_
  refine xe_ar 10 (A := (104, [(0, .ref 18), (1, .int 1), (2, .int 1), (3, .int r3)], [], ((xu I4 31 (((I4 18 40)).toInt.toNat) (20 : Int32)), L4))) h3 rfl ?_
  refine xe_go 12 (s' := (125, [(0, .ref 18), (1, .int 1), (2, .int 1), (3, .int r3)], [.int (1 : Int32)], ((xu (xu (xu I4 31 (((I4 18 40)).toInt.toNat) (20 : Int32)) 18 40 ((I4 18 40) + (1 : Int32))) 18 41 ((I4 18 41) + (1 : Int32))), L4))) rfl ?_
  exact xe_end rfl rfl rfl
set_option maxRecDepth 100000 in
theorem pt_X13_operand_2 {I I1 I2 I3 I4 : Nat → Nat → Int32} {L L1 L2 L3 L4 : Nat → Nat → Int64} {r3 : Int32} (c1 : fx_X13_isWord [.long (7237492 : Int64), .ref 18] (I, L) (some (.int 1)) (I1, L1)) (c2 : fx_X13_isSign [.int (40 : Int32), .ref 18] (I1, L1) (some (.int 1)) (I2, L2)) (c3 : fx_X13_leafOf [.ref 18] (I2, L2) (some (.int r3)) (I3, L3)) (h1 : (xe_cmp .eq (I3 18 39) (20 : Int32)) = false) (h2 : (xe_cmp .le (I3 18 41) (8 : Int32)) = false) (c4 : fx_X13_bad [.int (4 : Int32), .ref 18] (I3, L3) (some (.int 0)) (I4, L4)) : ∃ n, xr_X13_operand n (0, [(0, .ref 18)], [], (I, L)) (some (.int 0)) (I4, L4) := by
  refine xe_go 1 (s' := (4, [(0, .ref 18)], [.long (7237492 : Int64), .ref 18], (I, L))) rfl ?_
  refine xe_vir (n := 2) (f := fx_X13_isWord) rfl (Nat.le_of_ble_eq_true rfl) (List.mem_of_getElem? (i := 0) rfl) (Nat.le_of_ble_eq_true rfl) c1 ?_
  refine xe_go 2 (s' := (11, [(0, .ref 18), (1, .int 1)], [.int (40 : Int32), .ref 18], (I1, L1))) rfl ?_
  refine xe_vir (n := 2) (f := fx_X13_isSign) rfl (Nat.le_of_ble_eq_true rfl) (List.mem_of_getElem? (i := 1) rfl) (Nat.le_of_ble_eq_true rfl) c2 ?_
  refine xe_go 1 (s' := (16, [(0, .ref 18), (1, .int 1), (2, .int 1)], [.ref 18], (I2, L2))) rfl ?_
  refine xe_vir (n := 1) (f := fx_X13_leafOf) rfl (Nat.le_of_ble_eq_true rfl) (List.mem_of_getElem? (i := 2) rfl) (Nat.le_of_ble_eq_true rfl) c3 ?_
  refine xe_bF 6 (A := (56, [(0, .ref 18), (1, .int 1), (2, .int 1), (3, .int r3)], [], (I3, L3))) (B := (47, [(0, .ref 18), (1, .int 1), (2, .int 1), (3, .int r3)], [], (I3, L3))) h1 rfl ?_
  refine xe_bF 3 (A := (62, [(0, .ref 18), (1, .int 1), (2, .int 1), (3, .int r3)], [], (I3, L3))) (B := (56, [(0, .ref 18), (1, .int 1), (2, .int 1), (3, .int r3)], [], (I3, L3))) h2 rfl ?_
  refine xe_go 1 (s' := (58, [(0, .ref 18), (1, .int 1), (2, .int 1), (3, .int r3)], [.int (4 : Int32), .ref 18], (I3, L3))) rfl ?_
  refine xe_vir (n := 2) (f := fx_X13_bad) rfl (Nat.le_of_ble_eq_true rfl) (List.mem_of_getElem? (i := 3) rfl) (Nat.le_of_ble_eq_true rfl) c4 ?_
  exact xe_end rfl rfl rfl
set_option maxRecDepth 100000 in
theorem pt_X13_operand_3 {I I1 I2 I3 I4 : Nat → Nat → Int32} {L L1 L2 L3 L4 : Nat → Nat → Int64} {r3 : Int32} (c1 : fx_X13_isWord [.long (7237492 : Int64), .ref 18] (I, L) (some (.int 1)) (I1, L1)) (c2 : fx_X13_isSign [.int (40 : Int32), .ref 18] (I1, L1) (some (.int 0)) (I2, L2)) (c3 : fx_X13_leafOf [.ref 18] (I2, L2) (some (.int r3)) (I3, L3)) (h1 : (xe_cmp .eq (I3 18 39) (20 : Int32)) = true) (c4 : fx_X13_bad [.int (4 : Int32), .ref 18] (I3, L3) (some (.int 0)) (I4, L4)) : ∃ n, xr_X13_operand n (0, [(0, .ref 18)], [], (I, L)) (some (.int 0)) (I4, L4) := by
  refine xe_go 1 (s' := (4, [(0, .ref 18)], [.long (7237492 : Int64), .ref 18], (I, L))) rfl ?_
  refine xe_vir (n := 2) (f := fx_X13_isWord) rfl (Nat.le_of_ble_eq_true rfl) (List.mem_of_getElem? (i := 0) rfl) (Nat.le_of_ble_eq_true rfl) c1 ?_
  refine xe_go 2 (s' := (11, [(0, .ref 18), (1, .int 1)], [.int (40 : Int32), .ref 18], (I1, L1))) rfl ?_
  refine xe_vir (n := 2) (f := fx_X13_isSign) rfl (Nat.le_of_ble_eq_true rfl) (List.mem_of_getElem? (i := 1) rfl) (Nat.le_of_ble_eq_true rfl) c2 ?_
  refine xe_go 1 (s' := (16, [(0, .ref 18), (1, .int 1), (2, .int 0)], [.ref 18], (I2, L2))) rfl ?_
  refine xe_vir (n := 1) (f := fx_X13_leafOf) rfl (Nat.le_of_ble_eq_true rfl) (List.mem_of_getElem? (i := 2) rfl) (Nat.le_of_ble_eq_true rfl) c3 ?_
  refine xe_bT 6 (A := (56, [(0, .ref 18), (1, .int 1), (2, .int 0), (3, .int r3)], [], (I3, L3))) (B := (47, [(0, .ref 18), (1, .int 1), (2, .int 0), (3, .int r3)], [], (I3, L3))) h1 rfl ?_
  refine xe_go 1 (s' := (58, [(0, .ref 18), (1, .int 1), (2, .int 0), (3, .int r3)], [.int (4 : Int32), .ref 18], (I3, L3))) rfl ?_
  refine xe_vir (n := 2) (f := fx_X13_bad) rfl (Nat.le_of_ble_eq_true rfl) (List.mem_of_getElem? (i := 3) rfl) (Nat.le_of_ble_eq_true rfl) c4 ?_
  exact xe_end rfl rfl rfl
set_option maxRecDepth 100000 in
theorem pt_X13_operand_4 {I I1 I2 I3 I4 : Nat → Nat → Int32} {L L1 L2 L3 L4 : Nat → Nat → Int64} {r3 : Int32} (c1 : fx_X13_isWord [.long (7237492 : Int64), .ref 18] (I, L) (some (.int 1)) (I1, L1)) (c2 : fx_X13_isSign [.int (40 : Int32), .ref 18] (I1, L1) (some (.int 0)) (I2, L2)) (c3 : fx_X13_leafOf [.ref 18] (I2, L2) (some (.int r3)) (I3, L3)) (h1 : (xe_cmp .eq (I3 18 39) (20 : Int32)) = false) (h2 : (xe_cmp .le (I3 18 41) (8 : Int32)) = true) (c4 : fx_X13_next [.ref 18] ((xu I3 18 39 ((I3 18 39) + (1 : Int32))), L3) none (I4, L4)) (h3 : xe_ib (I4 18 40) 45 = true) : ∃ n, xr_X13_operand n (0, [(0, .ref 18)], [], (I, L)) (some (.int (1 : Int32))) ((xu (xu (xu I4 31 (((I4 18 40)).toInt.toNat) (20 : Int32)) 18 40 ((I4 18 40) + (1 : Int32))) 18 41 ((I4 18 41) + (1 : Int32))), L4) := by
  refine xe_go 1 (s' := (4, [(0, .ref 18)], [.long (7237492 : Int64), .ref 18], (I, L))) rfl ?_
  refine xe_vir (n := 2) (f := fx_X13_isWord) rfl (Nat.le_of_ble_eq_true rfl) (List.mem_of_getElem? (i := 0) rfl) (Nat.le_of_ble_eq_true rfl) c1 ?_
  refine xe_go 2 (s' := (11, [(0, .ref 18), (1, .int 1)], [.int (40 : Int32), .ref 18], (I1, L1))) rfl ?_
  refine xe_vir (n := 2) (f := fx_X13_isSign) rfl (Nat.le_of_ble_eq_true rfl) (List.mem_of_getElem? (i := 1) rfl) (Nat.le_of_ble_eq_true rfl) c2 ?_
  refine xe_go 1 (s' := (16, [(0, .ref 18), (1, .int 1), (2, .int 0)], [.ref 18], (I2, L2))) rfl ?_
  refine xe_vir (n := 1) (f := fx_X13_leafOf) rfl (Nat.le_of_ble_eq_true rfl) (List.mem_of_getElem? (i := 2) rfl) (Nat.le_of_ble_eq_true rfl) c3 ?_
  refine xe_bF 6 (A := (56, [(0, .ref 18), (1, .int 1), (2, .int 0), (3, .int r3)], [], (I3, L3))) (B := (47, [(0, .ref 18), (1, .int 1), (2, .int 0), (3, .int r3)], [], (I3, L3))) h1 rfl ?_
  refine xe_bT 3 (A := (62, [(0, .ref 18), (1, .int 1), (2, .int 0), (3, .int r3)], [], (I3, L3))) (B := (56, [(0, .ref 18), (1, .int 1), (2, .int 0), (3, .int r3)], [], (I3, L3))) h2 rfl ?_
  refine xe_go 6 (s' := (73, [(0, .ref 18), (1, .int 1), (2, .int 0), (3, .int r3)], [.ref 18], ((xu I3 18 39 ((I3 18 39) + (1 : Int32))), L3))) rfl ?_
  refine xe_vir (n := 1) (f := fx_X13_next) rfl (Nat.le_of_ble_eq_true rfl) (List.mem_of_getElem? (i := 4) rfl) (Nat.le_of_ble_eq_true rfl) c4 ?_
  refine xe_ar 10 (A := (104, [(0, .ref 18), (1, .int 1), (2, .int 0), (3, .int r3)], [], ((xu I4 31 (((I4 18 40)).toInt.toNat) (20 : Int32)), L4))) h3 rfl ?_
  refine xe_go 12 (s' := (125, [(0, .ref 18), (1, .int 1), (2, .int 0), (3, .int r3)], [.int (1 : Int32)], ((xu (xu (xu I4 31 (((I4 18 40)).toInt.toNat) (20 : Int32)) 18 40 ((I4 18 40) + (1 : Int32))) 18 41 ((I4 18 41) + (1 : Int32))), L4))) rfl ?_
  exact xe_end rfl rfl rfl
set_option maxRecDepth 100000 in
theorem pt_X13_operand_5 {I I1 I2 I3 I4 : Nat → Nat → Int32} {L L1 L2 L3 L4 : Nat → Nat → Int64} {r3 : Int32} (c1 : fx_X13_isWord [.long (7237492 : Int64), .ref 18] (I, L) (some (.int 1)) (I1, L1)) (c2 : fx_X13_isSign [.int (40 : Int32), .ref 18] (I1, L1) (some (.int 0)) (I2, L2)) (c3 : fx_X13_leafOf [.ref 18] (I2, L2) (some (.int r3)) (I3, L3)) (h1 : (xe_cmp .eq (I3 18 39) (20 : Int32)) = false) (h2 : (xe_cmp .le (I3 18 41) (8 : Int32)) = false) (c4 : fx_X13_bad [.int (4 : Int32), .ref 18] (I3, L3) (some (.int 0)) (I4, L4)) : ∃ n, xr_X13_operand n (0, [(0, .ref 18)], [], (I, L)) (some (.int 0)) (I4, L4) := by
  refine xe_go 1 (s' := (4, [(0, .ref 18)], [.long (7237492 : Int64), .ref 18], (I, L))) rfl ?_
  refine xe_vir (n := 2) (f := fx_X13_isWord) rfl (Nat.le_of_ble_eq_true rfl) (List.mem_of_getElem? (i := 0) rfl) (Nat.le_of_ble_eq_true rfl) c1 ?_
  refine xe_go 2 (s' := (11, [(0, .ref 18), (1, .int 1)], [.int (40 : Int32), .ref 18], (I1, L1))) rfl ?_
  refine xe_vir (n := 2) (f := fx_X13_isSign) rfl (Nat.le_of_ble_eq_true rfl) (List.mem_of_getElem? (i := 1) rfl) (Nat.le_of_ble_eq_true rfl) c2 ?_
  refine xe_go 1 (s' := (16, [(0, .ref 18), (1, .int 1), (2, .int 0)], [.ref 18], (I2, L2))) rfl ?_
  refine xe_vir (n := 1) (f := fx_X13_leafOf) rfl (Nat.le_of_ble_eq_true rfl) (List.mem_of_getElem? (i := 2) rfl) (Nat.le_of_ble_eq_true rfl) c3 ?_
  refine xe_bF 6 (A := (56, [(0, .ref 18), (1, .int 1), (2, .int 0), (3, .int r3)], [], (I3, L3))) (B := (47, [(0, .ref 18), (1, .int 1), (2, .int 0), (3, .int r3)], [], (I3, L3))) h1 rfl ?_
  refine xe_bF 3 (A := (62, [(0, .ref 18), (1, .int 1), (2, .int 0), (3, .int r3)], [], (I3, L3))) (B := (56, [(0, .ref 18), (1, .int 1), (2, .int 0), (3, .int r3)], [], (I3, L3))) h2 rfl ?_
  refine xe_go 1 (s' := (58, [(0, .ref 18), (1, .int 1), (2, .int 0), (3, .int r3)], [.int (4 : Int32), .ref 18], (I3, L3))) rfl ?_
  refine xe_vir (n := 2) (f := fx_X13_bad) rfl (Nat.le_of_ble_eq_true rfl) (List.mem_of_getElem? (i := 3) rfl) (Nat.le_of_ble_eq_true rfl) c4 ?_
  exact xe_end rfl rfl rfl
set_option maxRecDepth 100000 in
theorem pt_X13_operand_6 {I I1 I2 I3 I4 : Nat → Nat → Int32} {L L1 L2 L3 L4 : Nat → Nat → Int64} {r3 : Int32} (c1 : fx_X13_isWord [.long (7237492 : Int64), .ref 18] (I, L) (some (.int 0)) (I1, L1)) (c2 : fx_X13_isSign [.int (40 : Int32), .ref 18] (I1, L1) (some (.int 1)) (I2, L2)) (c3 : fx_X13_leafOf [.ref 18] (I2, L2) (some (.int r3)) (I3, L3)) (h1 : (xe_cmp .eq (I3 18 39) (20 : Int32)) = true) (c4 : fx_X13_bad [.int (4 : Int32), .ref 18] (I3, L3) (some (.int 0)) (I4, L4)) : ∃ n, xr_X13_operand n (0, [(0, .ref 18)], [], (I, L)) (some (.int 0)) (I4, L4) := by
  refine xe_go 1 (s' := (4, [(0, .ref 18)], [.long (7237492 : Int64), .ref 18], (I, L))) rfl ?_
  refine xe_vir (n := 2) (f := fx_X13_isWord) rfl (Nat.le_of_ble_eq_true rfl) (List.mem_of_getElem? (i := 0) rfl) (Nat.le_of_ble_eq_true rfl) c1 ?_
  refine xe_go 2 (s' := (11, [(0, .ref 18), (1, .int 0)], [.int (40 : Int32), .ref 18], (I1, L1))) rfl ?_
  refine xe_vir (n := 2) (f := fx_X13_isSign) rfl (Nat.le_of_ble_eq_true rfl) (List.mem_of_getElem? (i := 1) rfl) (Nat.le_of_ble_eq_true rfl) c2 ?_
  refine xe_go 1 (s' := (16, [(0, .ref 18), (1, .int 0), (2, .int 1)], [.ref 18], (I2, L2))) rfl ?_
  refine xe_vir (n := 1) (f := fx_X13_leafOf) rfl (Nat.le_of_ble_eq_true rfl) (List.mem_of_getElem? (i := 2) rfl) (Nat.le_of_ble_eq_true rfl) c3 ?_
  refine xe_bT 8 (A := (56, [(0, .ref 18), (1, .int 0), (2, .int 1), (3, .int r3)], [], (I3, L3))) (B := (47, [(0, .ref 18), (1, .int 0), (2, .int 1), (3, .int r3)], [], (I3, L3))) h1 rfl ?_
  refine xe_go 1 (s' := (58, [(0, .ref 18), (1, .int 0), (2, .int 1), (3, .int r3)], [.int (4 : Int32), .ref 18], (I3, L3))) rfl ?_
  refine xe_vir (n := 2) (f := fx_X13_bad) rfl (Nat.le_of_ble_eq_true rfl) (List.mem_of_getElem? (i := 3) rfl) (Nat.le_of_ble_eq_true rfl) c4 ?_
  exact xe_end rfl rfl rfl
set_option maxRecDepth 100000 in
theorem pt_X13_operand_7 {I I1 I2 I3 I4 : Nat → Nat → Int32} {L L1 L2 L3 L4 : Nat → Nat → Int64} {r3 : Int32} (c1 : fx_X13_isWord [.long (7237492 : Int64), .ref 18] (I, L) (some (.int 0)) (I1, L1)) (c2 : fx_X13_isSign [.int (40 : Int32), .ref 18] (I1, L1) (some (.int 1)) (I2, L2)) (c3 : fx_X13_leafOf [.ref 18] (I2, L2) (some (.int r3)) (I3, L3)) (h1 : (xe_cmp .eq (I3 18 39) (20 : Int32)) = false) (h2 : (xe_cmp .le (I3 18 41) (8 : Int32)) = true) (c4 : fx_X13_next [.ref 18] ((xu I3 18 39 ((I3 18 39) + (1 : Int32))), L3) none (I4, L4)) (h3 : xe_ib (I4 18 40) 45 = true) : ∃ n, xr_X13_operand n (0, [(0, .ref 18)], [], (I, L)) (some (.int (1 : Int32))) ((xu (xu (xu I4 31 (((I4 18 40)).toInt.toNat) (23 : Int32)) 18 40 ((I4 18 40) + (1 : Int32))) 18 41 ((I4 18 41) + (1 : Int32))), L4) := by
  refine xe_go 1 (s' := (4, [(0, .ref 18)], [.long (7237492 : Int64), .ref 18], (I, L))) rfl ?_
  refine xe_vir (n := 2) (f := fx_X13_isWord) rfl (Nat.le_of_ble_eq_true rfl) (List.mem_of_getElem? (i := 0) rfl) (Nat.le_of_ble_eq_true rfl) c1 ?_
  refine xe_go 2 (s' := (11, [(0, .ref 18), (1, .int 0)], [.int (40 : Int32), .ref 18], (I1, L1))) rfl ?_
  refine xe_vir (n := 2) (f := fx_X13_isSign) rfl (Nat.le_of_ble_eq_true rfl) (List.mem_of_getElem? (i := 1) rfl) (Nat.le_of_ble_eq_true rfl) c2 ?_
  refine xe_go 1 (s' := (16, [(0, .ref 18), (1, .int 0), (2, .int 1)], [.ref 18], (I2, L2))) rfl ?_
  refine xe_vir (n := 1) (f := fx_X13_leafOf) rfl (Nat.le_of_ble_eq_true rfl) (List.mem_of_getElem? (i := 2) rfl) (Nat.le_of_ble_eq_true rfl) c3 ?_
  refine xe_bF 8 (A := (56, [(0, .ref 18), (1, .int 0), (2, .int 1), (3, .int r3)], [], (I3, L3))) (B := (47, [(0, .ref 18), (1, .int 0), (2, .int 1), (3, .int r3)], [], (I3, L3))) h1 rfl ?_
  refine xe_bT 3 (A := (62, [(0, .ref 18), (1, .int 0), (2, .int 1), (3, .int r3)], [], (I3, L3))) (B := (56, [(0, .ref 18), (1, .int 0), (2, .int 1), (3, .int r3)], [], (I3, L3))) h2 rfl ?_
  refine xe_go 6 (s' := (73, [(0, .ref 18), (1, .int 0), (2, .int 1), (3, .int r3)], [.ref 18], ((xu I3 18 39 ((I3 18 39) + (1 : Int32))), L3))) rfl ?_
  refine xe_vir (n := 1) (f := fx_X13_next) rfl (Nat.le_of_ble_eq_true rfl) (List.mem_of_getElem? (i := 4) rfl) (Nat.le_of_ble_eq_true rfl) c4 ?_
  refine xe_ar 11 (A := (104, [(0, .ref 18), (1, .int 0), (2, .int 1), (3, .int r3)], [], ((xu I4 31 (((I4 18 40)).toInt.toNat) (23 : Int32)), L4))) h3 rfl ?_
  refine xe_go 12 (s' := (125, [(0, .ref 18), (1, .int 0), (2, .int 1), (3, .int r3)], [.int (1 : Int32)], ((xu (xu (xu I4 31 (((I4 18 40)).toInt.toNat) (23 : Int32)) 18 40 ((I4 18 40) + (1 : Int32))) 18 41 ((I4 18 41) + (1 : Int32))), L4))) rfl ?_
  exact xe_end rfl rfl rfl
set_option maxRecDepth 100000 in
theorem pt_X13_operand_8 {I I1 I2 I3 I4 : Nat → Nat → Int32} {L L1 L2 L3 L4 : Nat → Nat → Int64} {r3 : Int32} (c1 : fx_X13_isWord [.long (7237492 : Int64), .ref 18] (I, L) (some (.int 0)) (I1, L1)) (c2 : fx_X13_isSign [.int (40 : Int32), .ref 18] (I1, L1) (some (.int 1)) (I2, L2)) (c3 : fx_X13_leafOf [.ref 18] (I2, L2) (some (.int r3)) (I3, L3)) (h1 : (xe_cmp .eq (I3 18 39) (20 : Int32)) = false) (h2 : (xe_cmp .le (I3 18 41) (8 : Int32)) = false) (c4 : fx_X13_bad [.int (4 : Int32), .ref 18] (I3, L3) (some (.int 0)) (I4, L4)) : ∃ n, xr_X13_operand n (0, [(0, .ref 18)], [], (I, L)) (some (.int 0)) (I4, L4) := by
  refine xe_go 1 (s' := (4, [(0, .ref 18)], [.long (7237492 : Int64), .ref 18], (I, L))) rfl ?_
  refine xe_vir (n := 2) (f := fx_X13_isWord) rfl (Nat.le_of_ble_eq_true rfl) (List.mem_of_getElem? (i := 0) rfl) (Nat.le_of_ble_eq_true rfl) c1 ?_
  refine xe_go 2 (s' := (11, [(0, .ref 18), (1, .int 0)], [.int (40 : Int32), .ref 18], (I1, L1))) rfl ?_
  refine xe_vir (n := 2) (f := fx_X13_isSign) rfl (Nat.le_of_ble_eq_true rfl) (List.mem_of_getElem? (i := 1) rfl) (Nat.le_of_ble_eq_true rfl) c2 ?_
  refine xe_go 1 (s' := (16, [(0, .ref 18), (1, .int 0), (2, .int 1)], [.ref 18], (I2, L2))) rfl ?_
  refine xe_vir (n := 1) (f := fx_X13_leafOf) rfl (Nat.le_of_ble_eq_true rfl) (List.mem_of_getElem? (i := 2) rfl) (Nat.le_of_ble_eq_true rfl) c3 ?_
  refine xe_bF 8 (A := (56, [(0, .ref 18), (1, .int 0), (2, .int 1), (3, .int r3)], [], (I3, L3))) (B := (47, [(0, .ref 18), (1, .int 0), (2, .int 1), (3, .int r3)], [], (I3, L3))) h1 rfl ?_
  refine xe_bF 3 (A := (62, [(0, .ref 18), (1, .int 0), (2, .int 1), (3, .int r3)], [], (I3, L3))) (B := (56, [(0, .ref 18), (1, .int 0), (2, .int 1), (3, .int r3)], [], (I3, L3))) h2 rfl ?_
  refine xe_go 1 (s' := (58, [(0, .ref 18), (1, .int 0), (2, .int 1), (3, .int r3)], [.int (4 : Int32), .ref 18], (I3, L3))) rfl ?_
  refine xe_vir (n := 2) (f := fx_X13_bad) rfl (Nat.le_of_ble_eq_true rfl) (List.mem_of_getElem? (i := 3) rfl) (Nat.le_of_ble_eq_true rfl) c4 ?_
  exact xe_end rfl rfl rfl
set_option maxRecDepth 100000 in
theorem pt_X13_operand_9 {I I1 I2 I3 I4 : Nat → Nat → Int32} {L L1 L2 L3 L4 : Nat → Nat → Int64} {r3 : Int32} (c1 : fx_X13_isWord [.long (7237492 : Int64), .ref 18] (I, L) (some (.int 0)) (I1, L1)) (c2 : fx_X13_isSign [.int (40 : Int32), .ref 18] (I1, L1) (some (.int 0)) (I2, L2)) (c3 : fx_X13_leafOf [.ref 18] (I2, L2) (some (.int r3)) (I3, L3)) (h1 : (xe_cmp .ge r3 0) = true) (h2 : (xe_cmp .eq (I3 18 39) (20 : Int32)) = true) (c4 : fx_X13_bad [.int (4 : Int32), .ref 18] (I3, L3) (some (.int 0)) (I4, L4)) : ∃ n, xr_X13_operand n (0, [(0, .ref 18)], [], (I, L)) (some (.int 0)) (I4, L4) := by
  refine xe_go 1 (s' := (4, [(0, .ref 18)], [.long (7237492 : Int64), .ref 18], (I, L))) rfl ?_
  refine xe_vir (n := 2) (f := fx_X13_isWord) rfl (Nat.le_of_ble_eq_true rfl) (List.mem_of_getElem? (i := 0) rfl) (Nat.le_of_ble_eq_true rfl) c1 ?_
  refine xe_go 2 (s' := (11, [(0, .ref 18), (1, .int 0)], [.int (40 : Int32), .ref 18], (I1, L1))) rfl ?_
  refine xe_vir (n := 2) (f := fx_X13_isSign) rfl (Nat.le_of_ble_eq_true rfl) (List.mem_of_getElem? (i := 1) rfl) (Nat.le_of_ble_eq_true rfl) c2 ?_
  refine xe_go 1 (s' := (16, [(0, .ref 18), (1, .int 0), (2, .int 0)], [.ref 18], (I2, L2))) rfl ?_
  refine xe_vir (n := 1) (f := fx_X13_leafOf) rfl (Nat.le_of_ble_eq_true rfl) (List.mem_of_getElem? (i := 2) rfl) (Nat.le_of_ble_eq_true rfl) c3 ?_
  refine xe_bT 6 (A := (38, [(0, .ref 18), (1, .int 0), (2, .int 0), (3, .int r3)], [], (I3, L3))) (B := (32, [(0, .ref 18), (1, .int 0), (2, .int 0), (3, .int r3)], [], (I3, L3))) h1 rfl ?_
  refine xe_bT 3 (A := (56, [(0, .ref 18), (1, .int 0), (2, .int 0), (3, .int r3)], [], (I3, L3))) (B := (47, [(0, .ref 18), (1, .int 0), (2, .int 0), (3, .int r3)], [], (I3, L3))) h2 rfl ?_
  refine xe_go 1 (s' := (58, [(0, .ref 18), (1, .int 0), (2, .int 0), (3, .int r3)], [.int (4 : Int32), .ref 18], (I3, L3))) rfl ?_
  refine xe_vir (n := 2) (f := fx_X13_bad) rfl (Nat.le_of_ble_eq_true rfl) (List.mem_of_getElem? (i := 3) rfl) (Nat.le_of_ble_eq_true rfl) c4 ?_
  exact xe_end rfl rfl rfl
set_option maxRecDepth 100000 in
theorem pt_X13_operand_10 {I I1 I2 I3 I4 I5 : Nat → Nat → Int32} {L L1 L2 L3 L4 L5 : Nat → Nat → Int64} {r3 : Int32} (c1 : fx_X13_isWord [.long (7237492 : Int64), .ref 18] (I, L) (some (.int 0)) (I1, L1)) (c2 : fx_X13_isSign [.int (40 : Int32), .ref 18] (I1, L1) (some (.int 0)) (I2, L2)) (c3 : fx_X13_leafOf [.ref 18] (I2, L2) (some (.int r3)) (I3, L3)) (h1 : (xe_cmp .ge r3 0) = true) (h2 : (xe_cmp .eq (I3 18 39) (20 : Int32)) = false) (h3 : (xe_cmp .le (I3 18 41) (8 : Int32)) = true) (c4 : fx_X13_next [.ref 18] ((xu I3 18 39 ((I3 18 39) + (1 : Int32))), L3) none (I4, L4)) (h4 : (xe_cmp .ge r3 (3 : Int32)) = true) (h5 : (xe_cmp .ne r3 (3 : Int32)) = true) (h6 : (xe_cmp .ne (I4 18 11) (3 : Int32)) = true) (c5 : fx_X13_bad [.int (1 : Int32), .ref 18] ((xu I4 18 42 (1 : Int32)), L4) (some (.int 0)) (I5, L5)) : ∃ n, xr_X13_operand n (0, [(0, .ref 18)], [], (I, L)) (some (.int 0)) (I5, L5) := by
  refine xe_go 1 (s' := (4, [(0, .ref 18)], [.long (7237492 : Int64), .ref 18], (I, L))) rfl ?_
  refine xe_vir (n := 2) (f := fx_X13_isWord) rfl (Nat.le_of_ble_eq_true rfl) (List.mem_of_getElem? (i := 0) rfl) (Nat.le_of_ble_eq_true rfl) c1 ?_
  refine xe_go 2 (s' := (11, [(0, .ref 18), (1, .int 0)], [.int (40 : Int32), .ref 18], (I1, L1))) rfl ?_
  refine xe_vir (n := 2) (f := fx_X13_isSign) rfl (Nat.le_of_ble_eq_true rfl) (List.mem_of_getElem? (i := 1) rfl) (Nat.le_of_ble_eq_true rfl) c2 ?_
  refine xe_go 1 (s' := (16, [(0, .ref 18), (1, .int 0), (2, .int 0)], [.ref 18], (I2, L2))) rfl ?_
  refine xe_vir (n := 1) (f := fx_X13_leafOf) rfl (Nat.le_of_ble_eq_true rfl) (List.mem_of_getElem? (i := 2) rfl) (Nat.le_of_ble_eq_true rfl) c3 ?_
  refine xe_bT 6 (A := (38, [(0, .ref 18), (1, .int 0), (2, .int 0), (3, .int r3)], [], (I3, L3))) (B := (32, [(0, .ref 18), (1, .int 0), (2, .int 0), (3, .int r3)], [], (I3, L3))) h1 rfl ?_
  refine xe_bF 3 (A := (56, [(0, .ref 18), (1, .int 0), (2, .int 0), (3, .int r3)], [], (I3, L3))) (B := (47, [(0, .ref 18), (1, .int 0), (2, .int 0), (3, .int r3)], [], (I3, L3))) h2 rfl ?_
  refine xe_bT 3 (A := (62, [(0, .ref 18), (1, .int 0), (2, .int 0), (3, .int r3)], [], (I3, L3))) (B := (56, [(0, .ref 18), (1, .int 0), (2, .int 0), (3, .int r3)], [], (I3, L3))) h3 rfl ?_
  refine xe_go 6 (s' := (73, [(0, .ref 18), (1, .int 0), (2, .int 0), (3, .int r3)], [.ref 18], ((xu I3 18 39 ((I3 18 39) + (1 : Int32))), L3))) rfl ?_
  refine xe_vir (n := 1) (f := fx_X13_next) rfl (Nat.le_of_ble_eq_true rfl) (List.mem_of_getElem? (i := 4) rfl) (Nat.le_of_ble_eq_true rfl) c4 ?_
  refine xe_bT 9 (A := (145, [(0, .ref 18), (1, .int 0), (2, .int 0), (3, .int r3)], [], ((xu I4 18 42 (1 : Int32)), L4))) (B := (136, [(0, .ref 18), (1, .int 0), (2, .int 0), (3, .int r3)], [], ((xu I4 18 42 (1 : Int32)), L4))) h4 rfl ?_
  refine xe_bT 2 (A := (182, [(0, .ref 18), (1, .int 0), (2, .int 0), (3, .int r3)], [], ((xu I4 18 42 (1 : Int32)), L4))) (B := (150, [(0, .ref 18), (1, .int 0), (2, .int 0), (3, .int r3)], [], ((xu I4 18 42 (1 : Int32)), L4))) h5 rfl ?_
  refine xe_bT 3 (A := (208, [(0, .ref 18), (1, .int 0), (2, .int 0), (3, .int r3)], [], ((xu I4 18 42 (1 : Int32)), L4))) (B := (190, [(0, .ref 18), (1, .int 0), (2, .int 0), (3, .int r3)], [], ((xu I4 18 42 (1 : Int32)), L4))) h6 rfl ?_
  refine xe_go 1 (s' := (210, [(0, .ref 18), (1, .int 0), (2, .int 0), (3, .int r3)], [.int (1 : Int32), .ref 18], ((xu I4 18 42 (1 : Int32)), L4))) rfl ?_
  refine xe_vir (n := 2) (f := fx_X13_bad) rfl (Nat.le_of_ble_eq_true rfl) (List.mem_of_getElem? (i := 3) rfl) (Nat.le_of_ble_eq_true rfl) c5 ?_
  exact xe_end rfl rfl rfl
set_option maxRecDepth 100000 in
theorem pt_X13_operand_11 {I I1 I2 I3 I4 I5 : Nat → Nat → Int32} {L L1 L2 L3 L4 L5 : Nat → Nat → Int64} {r3 : Int32} (c1 : fx_X13_isWord [.long (7237492 : Int64), .ref 18] (I, L) (some (.int 0)) (I1, L1)) (c2 : fx_X13_isSign [.int (40 : Int32), .ref 18] (I1, L1) (some (.int 0)) (I2, L2)) (c3 : fx_X13_leafOf [.ref 18] (I2, L2) (some (.int r3)) (I3, L3)) (h1 : (xe_cmp .ge r3 0) = true) (h2 : (xe_cmp .eq (I3 18 39) (20 : Int32)) = false) (h3 : (xe_cmp .le (I3 18 41) (8 : Int32)) = true) (c4 : fx_X13_next [.ref 18] ((xu I3 18 39 ((I3 18 39) + (1 : Int32))), L3) none (I4, L4)) (h4 : (xe_cmp .ge r3 (3 : Int32)) = true) (h5 : (xe_cmp .ne r3 (3 : Int32)) = true) (h6 : (xe_cmp .ne (I4 18 11) (3 : Int32)) = false) (h7 : (xe_cmp .lt (I4 18 14) (60 : Int32)) = true) (c5 : fx_X13_bad [.int (1 : Int32), .ref 18] ((xu I4 18 42 (1 : Int32)), L4) (some (.int 0)) (I5, L5)) : ∃ n, xr_X13_operand n (0, [(0, .ref 18)], [], (I, L)) (some (.int 0)) (I5, L5) := by
  refine xe_go 1 (s' := (4, [(0, .ref 18)], [.long (7237492 : Int64), .ref 18], (I, L))) rfl ?_
  refine xe_vir (n := 2) (f := fx_X13_isWord) rfl (Nat.le_of_ble_eq_true rfl) (List.mem_of_getElem? (i := 0) rfl) (Nat.le_of_ble_eq_true rfl) c1 ?_
  refine xe_go 2 (s' := (11, [(0, .ref 18), (1, .int 0)], [.int (40 : Int32), .ref 18], (I1, L1))) rfl ?_
  refine xe_vir (n := 2) (f := fx_X13_isSign) rfl (Nat.le_of_ble_eq_true rfl) (List.mem_of_getElem? (i := 1) rfl) (Nat.le_of_ble_eq_true rfl) c2 ?_
  refine xe_go 1 (s' := (16, [(0, .ref 18), (1, .int 0), (2, .int 0)], [.ref 18], (I2, L2))) rfl ?_
  refine xe_vir (n := 1) (f := fx_X13_leafOf) rfl (Nat.le_of_ble_eq_true rfl) (List.mem_of_getElem? (i := 2) rfl) (Nat.le_of_ble_eq_true rfl) c3 ?_
  refine xe_bT 6 (A := (38, [(0, .ref 18), (1, .int 0), (2, .int 0), (3, .int r3)], [], (I3, L3))) (B := (32, [(0, .ref 18), (1, .int 0), (2, .int 0), (3, .int r3)], [], (I3, L3))) h1 rfl ?_
  refine xe_bF 3 (A := (56, [(0, .ref 18), (1, .int 0), (2, .int 0), (3, .int r3)], [], (I3, L3))) (B := (47, [(0, .ref 18), (1, .int 0), (2, .int 0), (3, .int r3)], [], (I3, L3))) h2 rfl ?_
  refine xe_bT 3 (A := (62, [(0, .ref 18), (1, .int 0), (2, .int 0), (3, .int r3)], [], (I3, L3))) (B := (56, [(0, .ref 18), (1, .int 0), (2, .int 0), (3, .int r3)], [], (I3, L3))) h3 rfl ?_
  refine xe_go 6 (s' := (73, [(0, .ref 18), (1, .int 0), (2, .int 0), (3, .int r3)], [.ref 18], ((xu I3 18 39 ((I3 18 39) + (1 : Int32))), L3))) rfl ?_
  refine xe_vir (n := 1) (f := fx_X13_next) rfl (Nat.le_of_ble_eq_true rfl) (List.mem_of_getElem? (i := 4) rfl) (Nat.le_of_ble_eq_true rfl) c4 ?_
  refine xe_bT 9 (A := (145, [(0, .ref 18), (1, .int 0), (2, .int 0), (3, .int r3)], [], ((xu I4 18 42 (1 : Int32)), L4))) (B := (136, [(0, .ref 18), (1, .int 0), (2, .int 0), (3, .int r3)], [], ((xu I4 18 42 (1 : Int32)), L4))) h4 rfl ?_
  refine xe_bT 2 (A := (182, [(0, .ref 18), (1, .int 0), (2, .int 0), (3, .int r3)], [], ((xu I4 18 42 (1 : Int32)), L4))) (B := (150, [(0, .ref 18), (1, .int 0), (2, .int 0), (3, .int r3)], [], ((xu I4 18 42 (1 : Int32)), L4))) h5 rfl ?_
  refine xe_bF 3 (A := (208, [(0, .ref 18), (1, .int 0), (2, .int 0), (3, .int r3)], [], ((xu I4 18 42 (1 : Int32)), L4))) (B := (190, [(0, .ref 18), (1, .int 0), (2, .int 0), (3, .int r3)], [], ((xu I4 18 42 (1 : Int32)), L4))) h6 rfl ?_
  refine xe_bT 3 (A := (208, [(0, .ref 18), (1, .int 0), (2, .int 0), (3, .int r3)], [], ((xu I4 18 42 (1 : Int32)), L4))) (B := (199, [(0, .ref 18), (1, .int 0), (2, .int 0), (3, .int r3)], [], ((xu I4 18 42 (1 : Int32)), L4))) h7 rfl ?_
  refine xe_go 1 (s' := (210, [(0, .ref 18), (1, .int 0), (2, .int 0), (3, .int r3)], [.int (1 : Int32), .ref 18], ((xu I4 18 42 (1 : Int32)), L4))) rfl ?_
  refine xe_vir (n := 2) (f := fx_X13_bad) rfl (Nat.le_of_ble_eq_true rfl) (List.mem_of_getElem? (i := 3) rfl) (Nat.le_of_ble_eq_true rfl) c5 ?_
  exact xe_end rfl rfl rfl
set_option maxRecDepth 100000 in
theorem pt_X13_operand_12 {I I1 I2 I3 I4 I5 I6 I7 : Nat → Nat → Int32} {L L1 L2 L3 L4 L5 L6 L7 : Nat → Nat → Int64} {r3 : Int32} (c1 : fx_X13_isWord [.long (7237492 : Int64), .ref 18] (I, L) (some (.int 0)) (I1, L1)) (c2 : fx_X13_isSign [.int (40 : Int32), .ref 18] (I1, L1) (some (.int 0)) (I2, L2)) (c3 : fx_X13_leafOf [.ref 18] (I2, L2) (some (.int r3)) (I3, L3)) (h1 : (xe_cmp .ge r3 0) = true) (h2 : (xe_cmp .eq (I3 18 39) (20 : Int32)) = false) (h3 : (xe_cmp .le (I3 18 41) (8 : Int32)) = true) (c4 : fx_X13_next [.ref 18] ((xu I3 18 39 ((I3 18 39) + (1 : Int32))), L3) none (I4, L4)) (h4 : (xe_cmp .ge r3 (3 : Int32)) = true) (h5 : (xe_cmp .ne r3 (3 : Int32)) = true) (h6 : (xe_cmp .ne (I4 18 11) (3 : Int32)) = false) (h7 : (xe_cmp .lt (I4 18 14) (60 : Int32)) = false) (h8 : (xe_cmp .le (I4 18 14) (62 : Int32)) = true) (c5 : fx_X13_next [.ref 18] ((xu I4 18 42 (1 : Int32)), L4) none (I5, L5)) (h9 : (xe_cmp .eq (I5 18 11) (2 : Int32)) = true) (c6 : fx_X13_code [.int (I5 18 14), .int (I4 18 14), .int r3, .ref 18] (I5, L5) none (I6, L6)) (c7 : fx_X13_next [.ref 18] (I6, L6) none (I7, L7)) : ∃ n, xr_X13_operand n (0, [(0, .ref 18)], [], (I, L)) (some (.int (1 : Int32))) (I7, L7) := by
  refine xe_go 1 (s' := (4, [(0, .ref 18)], [.long (7237492 : Int64), .ref 18], (I, L))) rfl ?_
  refine xe_vir (n := 2) (f := fx_X13_isWord) rfl (Nat.le_of_ble_eq_true rfl) (List.mem_of_getElem? (i := 0) rfl) (Nat.le_of_ble_eq_true rfl) c1 ?_
  refine xe_go 2 (s' := (11, [(0, .ref 18), (1, .int 0)], [.int (40 : Int32), .ref 18], (I1, L1))) rfl ?_
  refine xe_vir (n := 2) (f := fx_X13_isSign) rfl (Nat.le_of_ble_eq_true rfl) (List.mem_of_getElem? (i := 1) rfl) (Nat.le_of_ble_eq_true rfl) c2 ?_
  refine xe_go 1 (s' := (16, [(0, .ref 18), (1, .int 0), (2, .int 0)], [.ref 18], (I2, L2))) rfl ?_
  refine xe_vir (n := 1) (f := fx_X13_leafOf) rfl (Nat.le_of_ble_eq_true rfl) (List.mem_of_getElem? (i := 2) rfl) (Nat.le_of_ble_eq_true rfl) c3 ?_
  refine xe_bT 6 (A := (38, [(0, .ref 18), (1, .int 0), (2, .int 0), (3, .int r3)], [], (I3, L3))) (B := (32, [(0, .ref 18), (1, .int 0), (2, .int 0), (3, .int r3)], [], (I3, L3))) h1 rfl ?_
  refine xe_bF 3 (A := (56, [(0, .ref 18), (1, .int 0), (2, .int 0), (3, .int r3)], [], (I3, L3))) (B := (47, [(0, .ref 18), (1, .int 0), (2, .int 0), (3, .int r3)], [], (I3, L3))) h2 rfl ?_
  refine xe_bT 3 (A := (62, [(0, .ref 18), (1, .int 0), (2, .int 0), (3, .int r3)], [], (I3, L3))) (B := (56, [(0, .ref 18), (1, .int 0), (2, .int 0), (3, .int r3)], [], (I3, L3))) h3 rfl ?_
  refine xe_go 6 (s' := (73, [(0, .ref 18), (1, .int 0), (2, .int 0), (3, .int r3)], [.ref 18], ((xu I3 18 39 ((I3 18 39) + (1 : Int32))), L3))) rfl ?_
  refine xe_vir (n := 1) (f := fx_X13_next) rfl (Nat.le_of_ble_eq_true rfl) (List.mem_of_getElem? (i := 4) rfl) (Nat.le_of_ble_eq_true rfl) c4 ?_
  refine xe_bT 9 (A := (145, [(0, .ref 18), (1, .int 0), (2, .int 0), (3, .int r3)], [], ((xu I4 18 42 (1 : Int32)), L4))) (B := (136, [(0, .ref 18), (1, .int 0), (2, .int 0), (3, .int r3)], [], ((xu I4 18 42 (1 : Int32)), L4))) h4 rfl ?_
  refine xe_bT 2 (A := (182, [(0, .ref 18), (1, .int 0), (2, .int 0), (3, .int r3)], [], ((xu I4 18 42 (1 : Int32)), L4))) (B := (150, [(0, .ref 18), (1, .int 0), (2, .int 0), (3, .int r3)], [], ((xu I4 18 42 (1 : Int32)), L4))) h5 rfl ?_
  refine xe_bF 3 (A := (208, [(0, .ref 18), (1, .int 0), (2, .int 0), (3, .int r3)], [], ((xu I4 18 42 (1 : Int32)), L4))) (B := (190, [(0, .ref 18), (1, .int 0), (2, .int 0), (3, .int r3)], [], ((xu I4 18 42 (1 : Int32)), L4))) h6 rfl ?_
  refine xe_bF 3 (A := (208, [(0, .ref 18), (1, .int 0), (2, .int 0), (3, .int r3)], [], ((xu I4 18 42 (1 : Int32)), L4))) (B := (199, [(0, .ref 18), (1, .int 0), (2, .int 0), (3, .int r3)], [], ((xu I4 18 42 (1 : Int32)), L4))) h7 rfl ?_
  refine xe_bT 3 (A := (214, [(0, .ref 18), (1, .int 0), (2, .int 0), (3, .int r3)], [], ((xu I4 18 42 (1 : Int32)), L4))) (B := (208, [(0, .ref 18), (1, .int 0), (2, .int 0), (3, .int r3)], [], ((xu I4 18 42 (1 : Int32)), L4))) h8 rfl ?_
  refine xe_go 3 (s' := (221, [(0, .ref 18), (1, .int 0), (2, .int 0), (3, .int r3), (4, .int (I4 18 14))], [.ref 18], ((xu I4 18 42 (1 : Int32)), L4))) rfl ?_
  refine xe_vir (n := 1) (f := fx_X13_next) rfl (Nat.le_of_ble_eq_true rfl) (List.mem_of_getElem? (i := 4) rfl) (Nat.le_of_ble_eq_true rfl) c5 ?_
  refine xe_bT 3 (A := (238, [(0, .ref 18), (1, .int 0), (2, .int 0), (3, .int r3), (4, .int (I4 18 14))], [], (I5, L5))) (B := (232, [(0, .ref 18), (1, .int 0), (2, .int 0), (3, .int r3), (4, .int (I4 18 14))], [], (I5, L5))) h9 rfl ?_
  refine xe_go 4 (s' := (246, [(0, .ref 18), (1, .int 0), (2, .int 0), (3, .int r3), (4, .int (I4 18 14))], [.int (I5 18 14), .int (I4 18 14), .int r3, .ref 18], (I5, L5))) rfl ?_
  refine xe_vir (n := 4) (f := fx_X13_code) rfl (Nat.le_of_ble_eq_true rfl) (List.mem_of_getElem? (i := 5) rfl) (Nat.le_of_ble_eq_true rfl) c6 ?_
  refine xe_go 0 (s' := (250, [(0, .ref 18), (1, .int 0), (2, .int 0), (3, .int r3), (4, .int (I4 18 14))], [.ref 18], (I6, L6))) rfl ?_
  refine xe_vir (n := 1) (f := fx_X13_next) rfl (Nat.le_of_ble_eq_true rfl) (List.mem_of_getElem? (i := 4) rfl) (Nat.le_of_ble_eq_true rfl) c7 ?_
  refine xe_go 0 (s' := (254, [(0, .ref 18), (1, .int 0), (2, .int 0), (3, .int r3), (4, .int (I4 18 14))], [.int (1 : Int32)], (I7, L7))) rfl ?_
  exact xe_end rfl rfl rfl
set_option maxRecDepth 100000 in
theorem pt_X13_operand_13 {I I1 I2 I3 I4 I5 I6 : Nat → Nat → Int32} {L L1 L2 L3 L4 L5 L6 : Nat → Nat → Int64} {r3 : Int32} (c1 : fx_X13_isWord [.long (7237492 : Int64), .ref 18] (I, L) (some (.int 0)) (I1, L1)) (c2 : fx_X13_isSign [.int (40 : Int32), .ref 18] (I1, L1) (some (.int 0)) (I2, L2)) (c3 : fx_X13_leafOf [.ref 18] (I2, L2) (some (.int r3)) (I3, L3)) (h1 : (xe_cmp .ge r3 0) = true) (h2 : (xe_cmp .eq (I3 18 39) (20 : Int32)) = false) (h3 : (xe_cmp .le (I3 18 41) (8 : Int32)) = true) (c4 : fx_X13_next [.ref 18] ((xu I3 18 39 ((I3 18 39) + (1 : Int32))), L3) none (I4, L4)) (h4 : (xe_cmp .ge r3 (3 : Int32)) = true) (h5 : (xe_cmp .ne r3 (3 : Int32)) = true) (h6 : (xe_cmp .ne (I4 18 11) (3 : Int32)) = false) (h7 : (xe_cmp .lt (I4 18 14) (60 : Int32)) = false) (h8 : (xe_cmp .le (I4 18 14) (62 : Int32)) = true) (c5 : fx_X13_next [.ref 18] ((xu I4 18 42 (1 : Int32)), L4) none (I5, L5)) (h9 : (xe_cmp .eq (I5 18 11) (2 : Int32)) = false) (c6 : fx_X13_bad [.int (1 : Int32), .ref 18] (I5, L5) (some (.int 0)) (I6, L6)) : ∃ n, xr_X13_operand n (0, [(0, .ref 18)], [], (I, L)) (some (.int 0)) (I6, L6) := by
  refine xe_go 1 (s' := (4, [(0, .ref 18)], [.long (7237492 : Int64), .ref 18], (I, L))) rfl ?_
  refine xe_vir (n := 2) (f := fx_X13_isWord) rfl (Nat.le_of_ble_eq_true rfl) (List.mem_of_getElem? (i := 0) rfl) (Nat.le_of_ble_eq_true rfl) c1 ?_
  refine xe_go 2 (s' := (11, [(0, .ref 18), (1, .int 0)], [.int (40 : Int32), .ref 18], (I1, L1))) rfl ?_
  refine xe_vir (n := 2) (f := fx_X13_isSign) rfl (Nat.le_of_ble_eq_true rfl) (List.mem_of_getElem? (i := 1) rfl) (Nat.le_of_ble_eq_true rfl) c2 ?_
  refine xe_go 1 (s' := (16, [(0, .ref 18), (1, .int 0), (2, .int 0)], [.ref 18], (I2, L2))) rfl ?_
  refine xe_vir (n := 1) (f := fx_X13_leafOf) rfl (Nat.le_of_ble_eq_true rfl) (List.mem_of_getElem? (i := 2) rfl) (Nat.le_of_ble_eq_true rfl) c3 ?_
  refine xe_bT 6 (A := (38, [(0, .ref 18), (1, .int 0), (2, .int 0), (3, .int r3)], [], (I3, L3))) (B := (32, [(0, .ref 18), (1, .int 0), (2, .int 0), (3, .int r3)], [], (I3, L3))) h1 rfl ?_
  refine xe_bF 3 (A := (56, [(0, .ref 18), (1, .int 0), (2, .int 0), (3, .int r3)], [], (I3, L3))) (B := (47, [(0, .ref 18), (1, .int 0), (2, .int 0), (3, .int r3)], [], (I3, L3))) h2 rfl ?_
  refine xe_bT 3 (A := (62, [(0, .ref 18), (1, .int 0), (2, .int 0), (3, .int r3)], [], (I3, L3))) (B := (56, [(0, .ref 18), (1, .int 0), (2, .int 0), (3, .int r3)], [], (I3, L3))) h3 rfl ?_
  refine xe_go 6 (s' := (73, [(0, .ref 18), (1, .int 0), (2, .int 0), (3, .int r3)], [.ref 18], ((xu I3 18 39 ((I3 18 39) + (1 : Int32))), L3))) rfl ?_
  refine xe_vir (n := 1) (f := fx_X13_next) rfl (Nat.le_of_ble_eq_true rfl) (List.mem_of_getElem? (i := 4) rfl) (Nat.le_of_ble_eq_true rfl) c4 ?_
  refine xe_bT 9 (A := (145, [(0, .ref 18), (1, .int 0), (2, .int 0), (3, .int r3)], [], ((xu I4 18 42 (1 : Int32)), L4))) (B := (136, [(0, .ref 18), (1, .int 0), (2, .int 0), (3, .int r3)], [], ((xu I4 18 42 (1 : Int32)), L4))) h4 rfl ?_
  refine xe_bT 2 (A := (182, [(0, .ref 18), (1, .int 0), (2, .int 0), (3, .int r3)], [], ((xu I4 18 42 (1 : Int32)), L4))) (B := (150, [(0, .ref 18), (1, .int 0), (2, .int 0), (3, .int r3)], [], ((xu I4 18 42 (1 : Int32)), L4))) h5 rfl ?_
  refine xe_bF 3 (A := (208, [(0, .ref 18), (1, .int 0), (2, .int 0), (3, .int r3)], [], ((xu I4 18 42 (1 : Int32)), L4))) (B := (190, [(0, .ref 18), (1, .int 0), (2, .int 0), (3, .int r3)], [], ((xu I4 18 42 (1 : Int32)), L4))) h6 rfl ?_
  refine xe_bF 3 (A := (208, [(0, .ref 18), (1, .int 0), (2, .int 0), (3, .int r3)], [], ((xu I4 18 42 (1 : Int32)), L4))) (B := (199, [(0, .ref 18), (1, .int 0), (2, .int 0), (3, .int r3)], [], ((xu I4 18 42 (1 : Int32)), L4))) h7 rfl ?_
  refine xe_bT 3 (A := (214, [(0, .ref 18), (1, .int 0), (2, .int 0), (3, .int r3)], [], ((xu I4 18 42 (1 : Int32)), L4))) (B := (208, [(0, .ref 18), (1, .int 0), (2, .int 0), (3, .int r3)], [], ((xu I4 18 42 (1 : Int32)), L4))) h8 rfl ?_
  refine xe_go 3 (s' := (221, [(0, .ref 18), (1, .int 0), (2, .int 0), (3, .int r3), (4, .int (I4 18 14))], [.ref 18], ((xu I4 18 42 (1 : Int32)), L4))) rfl ?_
  refine xe_vir (n := 1) (f := fx_X13_next) rfl (Nat.le_of_ble_eq_true rfl) (List.mem_of_getElem? (i := 4) rfl) (Nat.le_of_ble_eq_true rfl) c5 ?_
  refine xe_bF 3 (A := (238, [(0, .ref 18), (1, .int 0), (2, .int 0), (3, .int r3), (4, .int (I4 18 14))], [], (I5, L5))) (B := (232, [(0, .ref 18), (1, .int 0), (2, .int 0), (3, .int r3), (4, .int (I4 18 14))], [], (I5, L5))) h9 rfl ?_
  refine xe_go 1 (s' := (234, [(0, .ref 18), (1, .int 0), (2, .int 0), (3, .int r3), (4, .int (I4 18 14))], [.int (1 : Int32), .ref 18], (I5, L5))) rfl ?_
  refine xe_vir (n := 2) (f := fx_X13_bad) rfl (Nat.le_of_ble_eq_true rfl) (List.mem_of_getElem? (i := 3) rfl) (Nat.le_of_ble_eq_true rfl) c6 ?_
  exact xe_end rfl rfl rfl
set_option maxRecDepth 100000 in
theorem pt_X13_operand_14 {I I1 I2 I3 I4 I5 : Nat → Nat → Int32} {L L1 L2 L3 L4 L5 : Nat → Nat → Int64} {r3 : Int32} (c1 : fx_X13_isWord [.long (7237492 : Int64), .ref 18] (I, L) (some (.int 0)) (I1, L1)) (c2 : fx_X13_isSign [.int (40 : Int32), .ref 18] (I1, L1) (some (.int 0)) (I2, L2)) (c3 : fx_X13_leafOf [.ref 18] (I2, L2) (some (.int r3)) (I3, L3)) (h1 : (xe_cmp .ge r3 0) = true) (h2 : (xe_cmp .eq (I3 18 39) (20 : Int32)) = false) (h3 : (xe_cmp .le (I3 18 41) (8 : Int32)) = true) (c4 : fx_X13_next [.ref 18] ((xu I3 18 39 ((I3 18 39) + (1 : Int32))), L3) none (I4, L4)) (h4 : (xe_cmp .ge r3 (3 : Int32)) = true) (h5 : (xe_cmp .ne r3 (3 : Int32)) = true) (h6 : (xe_cmp .ne (I4 18 11) (3 : Int32)) = false) (h7 : (xe_cmp .lt (I4 18 14) (60 : Int32)) = false) (h8 : (xe_cmp .le (I4 18 14) (62 : Int32)) = false) (c5 : fx_X13_bad [.int (1 : Int32), .ref 18] ((xu I4 18 42 (1 : Int32)), L4) (some (.int 0)) (I5, L5)) : ∃ n, xr_X13_operand n (0, [(0, .ref 18)], [], (I, L)) (some (.int 0)) (I5, L5) := by
  refine xe_go 1 (s' := (4, [(0, .ref 18)], [.long (7237492 : Int64), .ref 18], (I, L))) rfl ?_
  refine xe_vir (n := 2) (f := fx_X13_isWord) rfl (Nat.le_of_ble_eq_true rfl) (List.mem_of_getElem? (i := 0) rfl) (Nat.le_of_ble_eq_true rfl) c1 ?_
  refine xe_go 2 (s' := (11, [(0, .ref 18), (1, .int 0)], [.int (40 : Int32), .ref 18], (I1, L1))) rfl ?_
  refine xe_vir (n := 2) (f := fx_X13_isSign) rfl (Nat.le_of_ble_eq_true rfl) (List.mem_of_getElem? (i := 1) rfl) (Nat.le_of_ble_eq_true rfl) c2 ?_
  refine xe_go 1 (s' := (16, [(0, .ref 18), (1, .int 0), (2, .int 0)], [.ref 18], (I2, L2))) rfl ?_
  refine xe_vir (n := 1) (f := fx_X13_leafOf) rfl (Nat.le_of_ble_eq_true rfl) (List.mem_of_getElem? (i := 2) rfl) (Nat.le_of_ble_eq_true rfl) c3 ?_
  refine xe_bT 6 (A := (38, [(0, .ref 18), (1, .int 0), (2, .int 0), (3, .int r3)], [], (I3, L3))) (B := (32, [(0, .ref 18), (1, .int 0), (2, .int 0), (3, .int r3)], [], (I3, L3))) h1 rfl ?_
  refine xe_bF 3 (A := (56, [(0, .ref 18), (1, .int 0), (2, .int 0), (3, .int r3)], [], (I3, L3))) (B := (47, [(0, .ref 18), (1, .int 0), (2, .int 0), (3, .int r3)], [], (I3, L3))) h2 rfl ?_
  refine xe_bT 3 (A := (62, [(0, .ref 18), (1, .int 0), (2, .int 0), (3, .int r3)], [], (I3, L3))) (B := (56, [(0, .ref 18), (1, .int 0), (2, .int 0), (3, .int r3)], [], (I3, L3))) h3 rfl ?_
  refine xe_go 6 (s' := (73, [(0, .ref 18), (1, .int 0), (2, .int 0), (3, .int r3)], [.ref 18], ((xu I3 18 39 ((I3 18 39) + (1 : Int32))), L3))) rfl ?_
  refine xe_vir (n := 1) (f := fx_X13_next) rfl (Nat.le_of_ble_eq_true rfl) (List.mem_of_getElem? (i := 4) rfl) (Nat.le_of_ble_eq_true rfl) c4 ?_
  refine xe_bT 9 (A := (145, [(0, .ref 18), (1, .int 0), (2, .int 0), (3, .int r3)], [], ((xu I4 18 42 (1 : Int32)), L4))) (B := (136, [(0, .ref 18), (1, .int 0), (2, .int 0), (3, .int r3)], [], ((xu I4 18 42 (1 : Int32)), L4))) h4 rfl ?_
  refine xe_bT 2 (A := (182, [(0, .ref 18), (1, .int 0), (2, .int 0), (3, .int r3)], [], ((xu I4 18 42 (1 : Int32)), L4))) (B := (150, [(0, .ref 18), (1, .int 0), (2, .int 0), (3, .int r3)], [], ((xu I4 18 42 (1 : Int32)), L4))) h5 rfl ?_
  refine xe_bF 3 (A := (208, [(0, .ref 18), (1, .int 0), (2, .int 0), (3, .int r3)], [], ((xu I4 18 42 (1 : Int32)), L4))) (B := (190, [(0, .ref 18), (1, .int 0), (2, .int 0), (3, .int r3)], [], ((xu I4 18 42 (1 : Int32)), L4))) h6 rfl ?_
  refine xe_bF 3 (A := (208, [(0, .ref 18), (1, .int 0), (2, .int 0), (3, .int r3)], [], ((xu I4 18 42 (1 : Int32)), L4))) (B := (199, [(0, .ref 18), (1, .int 0), (2, .int 0), (3, .int r3)], [], ((xu I4 18 42 (1 : Int32)), L4))) h7 rfl ?_
  refine xe_bF 3 (A := (214, [(0, .ref 18), (1, .int 0), (2, .int 0), (3, .int r3)], [], ((xu I4 18 42 (1 : Int32)), L4))) (B := (208, [(0, .ref 18), (1, .int 0), (2, .int 0), (3, .int r3)], [], ((xu I4 18 42 (1 : Int32)), L4))) h8 rfl ?_
  refine xe_go 1 (s' := (210, [(0, .ref 18), (1, .int 0), (2, .int 0), (3, .int r3)], [.int (1 : Int32), .ref 18], ((xu I4 18 42 (1 : Int32)), L4))) rfl ?_
  refine xe_vir (n := 2) (f := fx_X13_bad) rfl (Nat.le_of_ble_eq_true rfl) (List.mem_of_getElem? (i := 3) rfl) (Nat.le_of_ble_eq_true rfl) c5 ?_
  exact xe_end rfl rfl rfl
set_option maxRecDepth 100000 in
theorem pt_X13_operand_15 {I I1 I2 I3 I4 I5 I6 I7 : Nat → Nat → Int32} {L L1 L2 L3 L4 L5 L6 L7 : Nat → Nat → Int64} {r3 : Int32} (c1 : fx_X13_isWord [.long (7237492 : Int64), .ref 18] (I, L) (some (.int 0)) (I1, L1)) (c2 : fx_X13_isSign [.int (40 : Int32), .ref 18] (I1, L1) (some (.int 0)) (I2, L2)) (c3 : fx_X13_leafOf [.ref 18] (I2, L2) (some (.int r3)) (I3, L3)) (h1 : (xe_cmp .ge r3 0) = true) (h2 : (xe_cmp .eq (I3 18 39) (20 : Int32)) = false) (h3 : (xe_cmp .le (I3 18 41) (8 : Int32)) = true) (c4 : fx_X13_next [.ref 18] ((xu I3 18 39 ((I3 18 39) + (1 : Int32))), L3) none (I4, L4)) (h4 : (xe_cmp .ge r3 (3 : Int32)) = true) (h5 : (xe_cmp .ne r3 (3 : Int32)) = false) (c5 : fx_X13_looksAt [.int (I4 20 0), .int (0 : Int32), .ref 18] ((xu I4 18 42 (1 : Int32)), L4) (some (.int 1)) (I5, L5)) (c6 : fx_X13_code [.int (I5 18 18), .int (0 : Int32), .int r3, .ref 18] (I5, L5) none (I6, L6)) (c7 : fx_X13_next [.ref 18] (I6, L6) none (I7, L7)) : ∃ n, xr_X13_operand n (0, [(0, .ref 18)], [], (I, L)) (some (.int (1 : Int32))) (I7, L7) := by
  refine xe_go 1 (s' := (4, [(0, .ref 18)], [.long (7237492 : Int64), .ref 18], (I, L))) rfl ?_
  refine xe_vir (n := 2) (f := fx_X13_isWord) rfl (Nat.le_of_ble_eq_true rfl) (List.mem_of_getElem? (i := 0) rfl) (Nat.le_of_ble_eq_true rfl) c1 ?_
  refine xe_go 2 (s' := (11, [(0, .ref 18), (1, .int 0)], [.int (40 : Int32), .ref 18], (I1, L1))) rfl ?_
  refine xe_vir (n := 2) (f := fx_X13_isSign) rfl (Nat.le_of_ble_eq_true rfl) (List.mem_of_getElem? (i := 1) rfl) (Nat.le_of_ble_eq_true rfl) c2 ?_
  refine xe_go 1 (s' := (16, [(0, .ref 18), (1, .int 0), (2, .int 0)], [.ref 18], (I2, L2))) rfl ?_
  refine xe_vir (n := 1) (f := fx_X13_leafOf) rfl (Nat.le_of_ble_eq_true rfl) (List.mem_of_getElem? (i := 2) rfl) (Nat.le_of_ble_eq_true rfl) c3 ?_
  refine xe_bT 6 (A := (38, [(0, .ref 18), (1, .int 0), (2, .int 0), (3, .int r3)], [], (I3, L3))) (B := (32, [(0, .ref 18), (1, .int 0), (2, .int 0), (3, .int r3)], [], (I3, L3))) h1 rfl ?_
  refine xe_bF 3 (A := (56, [(0, .ref 18), (1, .int 0), (2, .int 0), (3, .int r3)], [], (I3, L3))) (B := (47, [(0, .ref 18), (1, .int 0), (2, .int 0), (3, .int r3)], [], (I3, L3))) h2 rfl ?_
  refine xe_bT 3 (A := (62, [(0, .ref 18), (1, .int 0), (2, .int 0), (3, .int r3)], [], (I3, L3))) (B := (56, [(0, .ref 18), (1, .int 0), (2, .int 0), (3, .int r3)], [], (I3, L3))) h3 rfl ?_
  refine xe_go 6 (s' := (73, [(0, .ref 18), (1, .int 0), (2, .int 0), (3, .int r3)], [.ref 18], ((xu I3 18 39 ((I3 18 39) + (1 : Int32))), L3))) rfl ?_
  refine xe_vir (n := 1) (f := fx_X13_next) rfl (Nat.le_of_ble_eq_true rfl) (List.mem_of_getElem? (i := 4) rfl) (Nat.le_of_ble_eq_true rfl) c4 ?_
  refine xe_bT 9 (A := (145, [(0, .ref 18), (1, .int 0), (2, .int 0), (3, .int r3)], [], ((xu I4 18 42 (1 : Int32)), L4))) (B := (136, [(0, .ref 18), (1, .int 0), (2, .int 0), (3, .int r3)], [], ((xu I4 18 42 (1 : Int32)), L4))) h4 rfl ?_
  refine xe_bF 2 (A := (182, [(0, .ref 18), (1, .int 0), (2, .int 0), (3, .int r3)], [], ((xu I4 18 42 (1 : Int32)), L4))) (B := (150, [(0, .ref 18), (1, .int 0), (2, .int 0), (3, .int r3)], [], ((xu I4 18 42 (1 : Int32)), L4))) h5 rfl ?_
  refine xe_go 5 (s' := (158, [(0, .ref 18), (1, .int 0), (2, .int 0), (3, .int r3)], [.int (I4 20 0), .int (0 : Int32), .ref 18], ((xu I4 18 42 (1 : Int32)), L4))) rfl ?_
  refine xe_vir (n := 3) (f := fx_X13_looksAt) rfl (Nat.le_of_ble_eq_true rfl) (List.mem_of_getElem? (i := 6) rfl) (Nat.le_of_ble_eq_true rfl) c5 ?_
  refine xe_go 5 (s' := (173, [(0, .ref 18), (1, .int 0), (2, .int 0), (3, .int r3)], [.int (I5 18 18), .int (0 : Int32), .int r3, .ref 18], (I5, L5))) rfl ?_
  refine xe_vir (n := 4) (f := fx_X13_code) rfl (Nat.le_of_ble_eq_true rfl) (List.mem_of_getElem? (i := 5) rfl) (Nat.le_of_ble_eq_true rfl) c6 ?_
  refine xe_go 0 (s' := (177, [(0, .ref 18), (1, .int 0), (2, .int 0), (3, .int r3)], [.ref 18], (I6, L6))) rfl ?_
  refine xe_vir (n := 1) (f := fx_X13_next) rfl (Nat.le_of_ble_eq_true rfl) (List.mem_of_getElem? (i := 4) rfl) (Nat.le_of_ble_eq_true rfl) c7 ?_
  refine xe_go 0 (s' := (181, [(0, .ref 18), (1, .int 0), (2, .int 0), (3, .int r3)], [.int (1 : Int32)], (I7, L7))) rfl ?_
  exact xe_end rfl rfl rfl
set_option maxRecDepth 100000 in
theorem pt_X13_operand_16 {I I1 I2 I3 I4 I5 : Nat → Nat → Int32} {L L1 L2 L3 L4 L5 : Nat → Nat → Int64} {r3 : Int32} (c1 : fx_X13_isWord [.long (7237492 : Int64), .ref 18] (I, L) (some (.int 0)) (I1, L1)) (c2 : fx_X13_isSign [.int (40 : Int32), .ref 18] (I1, L1) (some (.int 0)) (I2, L2)) (c3 : fx_X13_leafOf [.ref 18] (I2, L2) (some (.int r3)) (I3, L3)) (h1 : (xe_cmp .ge r3 0) = true) (h2 : (xe_cmp .eq (I3 18 39) (20 : Int32)) = false) (h3 : (xe_cmp .le (I3 18 41) (8 : Int32)) = true) (c4 : fx_X13_next [.ref 18] ((xu I3 18 39 ((I3 18 39) + (1 : Int32))), L3) none (I4, L4)) (h4 : (xe_cmp .ge r3 (3 : Int32)) = true) (h5 : (xe_cmp .ne r3 (3 : Int32)) = false) (c5 : fx_X13_looksAt [.int (I4 20 0), .int (0 : Int32), .ref 18] ((xu I4 18 42 (1 : Int32)), L4) (some (.int 0)) (I5, L5)) : ∃ n, xr_X13_operand n (0, [(0, .ref 18)], [], (I, L)) (some (.int (0 : Int32))) (I5, L5) := by
  refine xe_go 1 (s' := (4, [(0, .ref 18)], [.long (7237492 : Int64), .ref 18], (I, L))) rfl ?_
  refine xe_vir (n := 2) (f := fx_X13_isWord) rfl (Nat.le_of_ble_eq_true rfl) (List.mem_of_getElem? (i := 0) rfl) (Nat.le_of_ble_eq_true rfl) c1 ?_
  refine xe_go 2 (s' := (11, [(0, .ref 18), (1, .int 0)], [.int (40 : Int32), .ref 18], (I1, L1))) rfl ?_
  refine xe_vir (n := 2) (f := fx_X13_isSign) rfl (Nat.le_of_ble_eq_true rfl) (List.mem_of_getElem? (i := 1) rfl) (Nat.le_of_ble_eq_true rfl) c2 ?_
  refine xe_go 1 (s' := (16, [(0, .ref 18), (1, .int 0), (2, .int 0)], [.ref 18], (I2, L2))) rfl ?_
  refine xe_vir (n := 1) (f := fx_X13_leafOf) rfl (Nat.le_of_ble_eq_true rfl) (List.mem_of_getElem? (i := 2) rfl) (Nat.le_of_ble_eq_true rfl) c3 ?_
  refine xe_bT 6 (A := (38, [(0, .ref 18), (1, .int 0), (2, .int 0), (3, .int r3)], [], (I3, L3))) (B := (32, [(0, .ref 18), (1, .int 0), (2, .int 0), (3, .int r3)], [], (I3, L3))) h1 rfl ?_
  refine xe_bF 3 (A := (56, [(0, .ref 18), (1, .int 0), (2, .int 0), (3, .int r3)], [], (I3, L3))) (B := (47, [(0, .ref 18), (1, .int 0), (2, .int 0), (3, .int r3)], [], (I3, L3))) h2 rfl ?_
  refine xe_bT 3 (A := (62, [(0, .ref 18), (1, .int 0), (2, .int 0), (3, .int r3)], [], (I3, L3))) (B := (56, [(0, .ref 18), (1, .int 0), (2, .int 0), (3, .int r3)], [], (I3, L3))) h3 rfl ?_
  refine xe_go 6 (s' := (73, [(0, .ref 18), (1, .int 0), (2, .int 0), (3, .int r3)], [.ref 18], ((xu I3 18 39 ((I3 18 39) + (1 : Int32))), L3))) rfl ?_
  refine xe_vir (n := 1) (f := fx_X13_next) rfl (Nat.le_of_ble_eq_true rfl) (List.mem_of_getElem? (i := 4) rfl) (Nat.le_of_ble_eq_true rfl) c4 ?_
  refine xe_bT 9 (A := (145, [(0, .ref 18), (1, .int 0), (2, .int 0), (3, .int r3)], [], ((xu I4 18 42 (1 : Int32)), L4))) (B := (136, [(0, .ref 18), (1, .int 0), (2, .int 0), (3, .int r3)], [], ((xu I4 18 42 (1 : Int32)), L4))) h4 rfl ?_
  refine xe_bF 2 (A := (182, [(0, .ref 18), (1, .int 0), (2, .int 0), (3, .int r3)], [], ((xu I4 18 42 (1 : Int32)), L4))) (B := (150, [(0, .ref 18), (1, .int 0), (2, .int 0), (3, .int r3)], [], ((xu I4 18 42 (1 : Int32)), L4))) h5 rfl ?_
  refine xe_go 5 (s' := (158, [(0, .ref 18), (1, .int 0), (2, .int 0), (3, .int r3)], [.int (I4 20 0), .int (0 : Int32), .ref 18], ((xu I4 18 42 (1 : Int32)), L4))) rfl ?_
  refine xe_vir (n := 3) (f := fx_X13_looksAt) rfl (Nat.le_of_ble_eq_true rfl) (List.mem_of_getElem? (i := 6) rfl) (Nat.le_of_ble_eq_true rfl) c5 ?_
  refine xe_go 1 (s' := (165, [(0, .ref 18), (1, .int 0), (2, .int 0), (3, .int r3)], [.int (0 : Int32)], (I5, L5))) rfl ?_
  exact xe_end rfl rfl rfl
set_option maxRecDepth 100000 in
theorem pt_X13_operand_17 {I I1 I2 I3 I4 I5 : Nat → Nat → Int32} {L L1 L2 L3 L4 L5 : Nat → Nat → Int64} {r3 : Int32} (c1 : fx_X13_isWord [.long (7237492 : Int64), .ref 18] (I, L) (some (.int 0)) (I1, L1)) (c2 : fx_X13_isSign [.int (40 : Int32), .ref 18] (I1, L1) (some (.int 0)) (I2, L2)) (c3 : fx_X13_leafOf [.ref 18] (I2, L2) (some (.int r3)) (I3, L3)) (h1 : (xe_cmp .ge r3 0) = true) (h2 : (xe_cmp .eq (I3 18 39) (20 : Int32)) = false) (h3 : (xe_cmp .le (I3 18 41) (8 : Int32)) = true) (c4 : fx_X13_next [.ref 18] ((xu I3 18 39 ((I3 18 39) + (1 : Int32))), L3) none (I4, L4)) (h4 : (xe_cmp .ge r3 (3 : Int32)) = false) (c5 : fx_X13_code [.int (0 : Int32), .int (0 : Int32), .int r3, .ref 18] ((xu I4 18 42 (1 : Int32)), L4) none (I5, L5)) : ∃ n, xr_X13_operand n (0, [(0, .ref 18)], [], (I, L)) (some (.int (1 : Int32))) (I5, L5) := by
  refine xe_go 1 (s' := (4, [(0, .ref 18)], [.long (7237492 : Int64), .ref 18], (I, L))) rfl ?_
  refine xe_vir (n := 2) (f := fx_X13_isWord) rfl (Nat.le_of_ble_eq_true rfl) (List.mem_of_getElem? (i := 0) rfl) (Nat.le_of_ble_eq_true rfl) c1 ?_
  refine xe_go 2 (s' := (11, [(0, .ref 18), (1, .int 0)], [.int (40 : Int32), .ref 18], (I1, L1))) rfl ?_
  refine xe_vir (n := 2) (f := fx_X13_isSign) rfl (Nat.le_of_ble_eq_true rfl) (List.mem_of_getElem? (i := 1) rfl) (Nat.le_of_ble_eq_true rfl) c2 ?_
  refine xe_go 1 (s' := (16, [(0, .ref 18), (1, .int 0), (2, .int 0)], [.ref 18], (I2, L2))) rfl ?_
  refine xe_vir (n := 1) (f := fx_X13_leafOf) rfl (Nat.le_of_ble_eq_true rfl) (List.mem_of_getElem? (i := 2) rfl) (Nat.le_of_ble_eq_true rfl) c3 ?_
  refine xe_bT 6 (A := (38, [(0, .ref 18), (1, .int 0), (2, .int 0), (3, .int r3)], [], (I3, L3))) (B := (32, [(0, .ref 18), (1, .int 0), (2, .int 0), (3, .int r3)], [], (I3, L3))) h1 rfl ?_
  refine xe_bF 3 (A := (56, [(0, .ref 18), (1, .int 0), (2, .int 0), (3, .int r3)], [], (I3, L3))) (B := (47, [(0, .ref 18), (1, .int 0), (2, .int 0), (3, .int r3)], [], (I3, L3))) h2 rfl ?_
  refine xe_bT 3 (A := (62, [(0, .ref 18), (1, .int 0), (2, .int 0), (3, .int r3)], [], (I3, L3))) (B := (56, [(0, .ref 18), (1, .int 0), (2, .int 0), (3, .int r3)], [], (I3, L3))) h3 rfl ?_
  refine xe_go 6 (s' := (73, [(0, .ref 18), (1, .int 0), (2, .int 0), (3, .int r3)], [.ref 18], ((xu I3 18 39 ((I3 18 39) + (1 : Int32))), L3))) rfl ?_
  refine xe_vir (n := 1) (f := fx_X13_next) rfl (Nat.le_of_ble_eq_true rfl) (List.mem_of_getElem? (i := 4) rfl) (Nat.le_of_ble_eq_true rfl) c4 ?_
  refine xe_bF 9 (A := (145, [(0, .ref 18), (1, .int 0), (2, .int 0), (3, .int r3)], [], ((xu I4 18 42 (1 : Int32)), L4))) (B := (136, [(0, .ref 18), (1, .int 0), (2, .int 0), (3, .int r3)], [], ((xu I4 18 42 (1 : Int32)), L4))) h4 rfl ?_
  refine xe_go 3 (s' := (140, [(0, .ref 18), (1, .int 0), (2, .int 0), (3, .int r3)], [.int (0 : Int32), .int (0 : Int32), .int r3, .ref 18], ((xu I4 18 42 (1 : Int32)), L4))) rfl ?_
  refine xe_vir (n := 4) (f := fx_X13_code) rfl (Nat.le_of_ble_eq_true rfl) (List.mem_of_getElem? (i := 5) rfl) (Nat.le_of_ble_eq_true rfl) c5 ?_
  refine xe_go 0 (s' := (144, [(0, .ref 18), (1, .int 0), (2, .int 0), (3, .int r3)], [.int (1 : Int32)], (I5, L5))) rfl ?_
  exact xe_end rfl rfl rfl
set_option maxRecDepth 100000 in
theorem pt_X13_operand_18 {I I1 I2 I3 I4 : Nat → Nat → Int32} {L L1 L2 L3 L4 : Nat → Nat → Int64} {r3 : Int32} (c1 : fx_X13_isWord [.long (7237492 : Int64), .ref 18] (I, L) (some (.int 0)) (I1, L1)) (c2 : fx_X13_isSign [.int (40 : Int32), .ref 18] (I1, L1) (some (.int 0)) (I2, L2)) (c3 : fx_X13_leafOf [.ref 18] (I2, L2) (some (.int r3)) (I3, L3)) (h1 : (xe_cmp .ge r3 0) = true) (h2 : (xe_cmp .eq (I3 18 39) (20 : Int32)) = false) (h3 : (xe_cmp .le (I3 18 41) (8 : Int32)) = false) (c4 : fx_X13_bad [.int (4 : Int32), .ref 18] (I3, L3) (some (.int 0)) (I4, L4)) : ∃ n, xr_X13_operand n (0, [(0, .ref 18)], [], (I, L)) (some (.int 0)) (I4, L4) := by
  refine xe_go 1 (s' := (4, [(0, .ref 18)], [.long (7237492 : Int64), .ref 18], (I, L))) rfl ?_
  refine xe_vir (n := 2) (f := fx_X13_isWord) rfl (Nat.le_of_ble_eq_true rfl) (List.mem_of_getElem? (i := 0) rfl) (Nat.le_of_ble_eq_true rfl) c1 ?_
  refine xe_go 2 (s' := (11, [(0, .ref 18), (1, .int 0)], [.int (40 : Int32), .ref 18], (I1, L1))) rfl ?_
  refine xe_vir (n := 2) (f := fx_X13_isSign) rfl (Nat.le_of_ble_eq_true rfl) (List.mem_of_getElem? (i := 1) rfl) (Nat.le_of_ble_eq_true rfl) c2 ?_
  refine xe_go 1 (s' := (16, [(0, .ref 18), (1, .int 0), (2, .int 0)], [.ref 18], (I2, L2))) rfl ?_
  refine xe_vir (n := 1) (f := fx_X13_leafOf) rfl (Nat.le_of_ble_eq_true rfl) (List.mem_of_getElem? (i := 2) rfl) (Nat.le_of_ble_eq_true rfl) c3 ?_
  refine xe_bT 6 (A := (38, [(0, .ref 18), (1, .int 0), (2, .int 0), (3, .int r3)], [], (I3, L3))) (B := (32, [(0, .ref 18), (1, .int 0), (2, .int 0), (3, .int r3)], [], (I3, L3))) h1 rfl ?_
  refine xe_bF 3 (A := (56, [(0, .ref 18), (1, .int 0), (2, .int 0), (3, .int r3)], [], (I3, L3))) (B := (47, [(0, .ref 18), (1, .int 0), (2, .int 0), (3, .int r3)], [], (I3, L3))) h2 rfl ?_
  refine xe_bF 3 (A := (62, [(0, .ref 18), (1, .int 0), (2, .int 0), (3, .int r3)], [], (I3, L3))) (B := (56, [(0, .ref 18), (1, .int 0), (2, .int 0), (3, .int r3)], [], (I3, L3))) h3 rfl ?_
  refine xe_go 1 (s' := (58, [(0, .ref 18), (1, .int 0), (2, .int 0), (3, .int r3)], [.int (4 : Int32), .ref 18], (I3, L3))) rfl ?_
  refine xe_vir (n := 2) (f := fx_X13_bad) rfl (Nat.le_of_ble_eq_true rfl) (List.mem_of_getElem? (i := 3) rfl) (Nat.le_of_ble_eq_true rfl) c4 ?_
  exact xe_end rfl rfl rfl
set_option maxRecDepth 100000 in
theorem pt_X13_operand_19 {I I1 I2 I3 I4 : Nat → Nat → Int32} {L L1 L2 L3 L4 : Nat → Nat → Int64} {r3 : Int32} (c1 : fx_X13_isWord [.long (7237492 : Int64), .ref 18] (I, L) (some (.int 0)) (I1, L1)) (c2 : fx_X13_isSign [.int (40 : Int32), .ref 18] (I1, L1) (some (.int 0)) (I2, L2)) (c3 : fx_X13_leafOf [.ref 18] (I2, L2) (some (.int r3)) (I3, L3)) (h1 : (xe_cmp .ge r3 0) = false) (c4 : fx_X13_bad [.int (1 : Int32), .ref 18] (I3, L3) (some (.int 0)) (I4, L4)) : ∃ n, xr_X13_operand n (0, [(0, .ref 18)], [], (I, L)) (some (.int 0)) (I4, L4) := by
  refine xe_go 1 (s' := (4, [(0, .ref 18)], [.long (7237492 : Int64), .ref 18], (I, L))) rfl ?_
  refine xe_vir (n := 2) (f := fx_X13_isWord) rfl (Nat.le_of_ble_eq_true rfl) (List.mem_of_getElem? (i := 0) rfl) (Nat.le_of_ble_eq_true rfl) c1 ?_
  refine xe_go 2 (s' := (11, [(0, .ref 18), (1, .int 0)], [.int (40 : Int32), .ref 18], (I1, L1))) rfl ?_
  refine xe_vir (n := 2) (f := fx_X13_isSign) rfl (Nat.le_of_ble_eq_true rfl) (List.mem_of_getElem? (i := 1) rfl) (Nat.le_of_ble_eq_true rfl) c2 ?_
  refine xe_go 1 (s' := (16, [(0, .ref 18), (1, .int 0), (2, .int 0)], [.ref 18], (I2, L2))) rfl ?_
  refine xe_vir (n := 1) (f := fx_X13_leafOf) rfl (Nat.le_of_ble_eq_true rfl) (List.mem_of_getElem? (i := 2) rfl) (Nat.le_of_ble_eq_true rfl) c3 ?_
  refine xe_bF 6 (A := (38, [(0, .ref 18), (1, .int 0), (2, .int 0), (3, .int r3)], [], (I3, L3))) (B := (32, [(0, .ref 18), (1, .int 0), (2, .int 0), (3, .int r3)], [], (I3, L3))) h1 rfl ?_
  refine xe_go 1 (s' := (34, [(0, .ref 18), (1, .int 0), (2, .int 0), (3, .int r3)], [.int (1 : Int32), .ref 18], (I3, L3))) rfl ?_
  refine xe_vir (n := 2) (f := fx_X13_bad) rfl (Nat.le_of_ble_eq_true rfl) (List.mem_of_getElem? (i := 3) rfl) (Nat.le_of_ble_eq_true rfl) c4 ?_
  exact xe_end rfl rfl rfl
def xi_X13_behind : List (Nat × Nat × Instr) := [(0, 1, .aload_n 0), (1, 3, .invokevirtual 437), (4, 1, .aload_n 0), (5, 3, .ldc2_w 110), (8, 3, .invokevirtual 193), (11, 3, .ifCond .ne 13), (14, 1, .aload_n 0), (15, 3, .ldc2_w 108), (18, 3, .invokevirtual 193), (21, 3, .ifCond .eq 71), (24, 1, .aload_n 0), (25, 1, .aload_n 0), (26, 3, .ldc2_w 110), (29, 3, .invokevirtual 193), (32, 3, .ifCond .eq 8), (35, 2, .bipush 21), (37, 3, .goto 5), (40, 2, .bipush 22), (42, 3, .invokevirtual 440), (45, 1, .aload_n 0), (46, 3, .getfield 68), (49, 1, .aload_n 0), (50, 3, .getfield 419), (53, 1, .aload_n 0), (54, 3, .ldc2_w 110), (57, 3, .invokevirtual 193), (60, 3, .ifCond .eq 8), (63, 2, .bipush 21), (65, 3, .goto 5), (68, 2, .bipush 22), (70, 1, .iastore), (71, 1, .aload_n 0), (72, 1, .dup), (73, 3, .getfield 419), (76, 1, .iconst 1), (77, 1, .iadd), (78, 3, .putfield 419), (81, 1, .aload_n 0), (82, 1, .iconst 0), (83, 3, .putfield 434), (86, 1, .aload_n 0), (87, 3, .invokevirtual 171), (90, 1, .iconst 1), (91, 1, .ireturn), (92, 1, .aload_n 0), (93, 2, .bipush 22), (95, 3, .invokevirtual 440), (98, 1, .aload_n 0), (99, 2, .bipush 41), (101, 3, .invokevirtual 165), (104, 3, .ifCond .eq 10), (107, 1, .aload_n 0), (108, 3, .getfield 419), (111, 3, .ifCond .ne 9), (114, 1, .aload_n 0), (115, 1, .iconst 1), (116, 3, .invokevirtual 168), (119, 1, .ireturn), (120, 1, .aload_n 0), (121, 1, .dup), (122, 3, .getfield 419), (125, 1, .iconst 1), (126, 1, .isub), (127, 3, .putfield 419), (130, 1, .aload_n 0), (131, 1, .dup), (132, 3, .getfield 425), (135, 1, .iconst 1), (136, 1, .isub), (137, 3, .putfield 425), (140, 1, .aload_n 0), (141, 3, .invokevirtual 171), (144, 1, .iconst 1), (145, 1, .ireturn)]
def xg_X13_behind : zf_ft := [(68, 11, 37, .inl (0, 0)), (419, 11, 40, .inl (0, 0)), (425, 11, 41, .inl (0, 0))]
def xp_X13_behind : zf_ft := [(419, 11, 40, .inl ((-2147483648), 2147483647)), (434, 11, 42, .inl (0, 1)), (425, 11, 41, .inl ((-2147483648), 2147483647))]
def xv_X13_behind : List (Nat × Nat × xe_F) := [(437, 1, fx_X13_nots), (193, 2, fx_X13_isWord), (440, 2, fx_X13_joins), (171, 1, fx_X13_next), (165, 2, fx_X13_isSign), (168, 2, fx_X13_bad)]
def xt_X13_behind : List (Nat × Nat × xe_F) := []
abbrev xr_X13_behind := xe_run xGT xSC xRF 1 xg_X13_behind xp_X13_behind [] [(110, 6385252), (108, 28530)] (xv_X13_behind) xt_X13_behind xi_X13_behind
def fx_X13_behind : xe_F := fun us hp v hp' => (us.map fun v => v.category).sum ≤ 1 ∧ xe_rt (some .boolean) v ∧ (∃ ar, us = ar ++ [.ref 18]) ∧ ∃ n, xr_X13_behind n (0, xe_ag 0 us.reverse, [], hp) v hp'
theorem mk_X13_behind  {hp hp' : xe_H} {v : Option Value} (hr : xe_rt (some .boolean) v) (h : ∃ n, xr_X13_behind n (0, [(0, .ref 18)], [], hp) v hp') : fx_X13_behind [.ref 18] hp v hp' := ⟨Nat.le_of_ble_eq_true rfl, hr, ⟨[], rfl⟩, h⟩
theorem hx_X13_behind : ∀ us hp v hp', fx_X13_behind us hp v hp' → (us.map fun v => v.category).sum ≤ 1 ∧ xe_rt (some .boolean) v ∧ ∃ n, xr_X13_behind n (0, xe_ag 0 us.reverse, [], hp) v hp' := fun us hp v hp' h => ⟨h.1, h.2.1, h.2.2.2⟩
theorem fr_X13_behind : ∀ us hp v hp', fx_X13_behind us hp v hp' → ∃ ar, us = ar ++ [.ref 18] := fun us hp v hp' h => h.2.2.1
set_option maxRecDepth 100000 in
set_option maxHeartbeats 4000000 in
theorem kx_X13_behind (l : Launch) (D : va_G) (k : Nat → ClassId) (B0 : Nat) (ad : Nat → Nat) (al sw : Nat) : xe_Con l yX13_behind (zw yX13_behind cX13_behind 1 (some .boolean)) ({ frames := 2, cells := 0, slots := 0, locals := 44 }) D k ad (zEx B0 ad al sw) xGT xSC xRF (fx_X13_behind) := by
  have hEx := zEx_ok B0 ad al sw
  refine xe_mk (cc := cX13_behind) (nL := 1) (ret := (some .boolean)) (fg := xg_X13_behind) (fp := xp_X13_behind) (sg := []) (lc := [(110, 6385252), (108, 28530)]) (cv := xv_X13_behind) (cs := xt_X13_behind) (ins := xi_X13_behind) (by decide) rfl hEx (by decide +kernel) hx_X13_behind ?_
  intro p e s m args below meth c Q Sg w0 A θ S hK hE hAB hA hth
  refine ⟨?_, ?_, ?_, ?_, ?_, ?_⟩
  · exact zf_ac ((fun H locs ws a q0 fs v rest pc ls hP he hv hdg kk => va_get (D := D) (ci := 11) (C := RX13) (T := TX13) (N := 47) (own := RX13) S.1 S.2.1 S.2.2.2.2 (zg_in inW_X13) S.2.2.2.1 hK hP q0 he rfl 37 (by decide) (S.2.2.2.2 (.fieldLink RX13 68 "RungMoneyModel" "stack" "[I") (List.mem_cons_of_mem _ zw_1385)) (fun _ h9 => h9) hv hdg kk)) (zf_ac ((fun H locs ws a q0 fs v rest pc ls hP he hv hdg kk => va_get (D := D) (ci := 11) (C := RX13) (T := TX13) (N := 47) (own := RX13) S.1 S.2.1 S.2.2.2.2 (zg_in inW_X13) S.2.2.2.1 hK hP q0 he rfl 40 (by decide) (S.2.2.2.2 (.fieldLink RX13 419 "RungMoneyModel" "top" "I") (List.mem_cons_of_mem _ zw_1388)) (fun _ h9 => h9) hv hdg kk)) (zf_ac ((fun H locs ws a q0 fs v rest pc ls hP he hv hdg kk => va_get (D := D) (ci := 11) (C := RX13) (T := TX13) (N := 47) (own := RX13) S.1 S.2.1 S.2.2.2.2 (zg_in inW_X13) S.2.2.2.1 hK hP q0 he rfl 41 (by decide) (S.2.2.2.2 (.fieldLink RX13 425 "RungMoneyModel" "deep" "I") (List.mem_cons_of_mem _ zw_1389)) (fun _ h9 => h9) hv hdg kk)) zf_an))
  · exact zf_ac ((fun H locs ws a q0 fs v rest pc ls hP hD hS he hl hv hdg kk => by obtain ⟨x, rfl, h1, h2⟩ := hv; exact va_put (D := D) (ci := 11) (v := .int x) (ty := .int) (C := RX13) (T := TX13) (N := 47) (own := RX13) S.1 S.2.1 S.2.2.2.2 (zg_in inW_X13) tyX13 tyX13_ok nmX13 S.2.2.2.1 hK hP hD hS q0 he rfl 40 (by decide) (S.2.2.2.2 (.fieldLink RX13 419 "RungMoneyModel" "top" "I") (List.mem_cons_of_mem _ zw_1388)) (fun _ h9 => h9) rfl (by decide +kernel) rfl rfl hl hdg kk)) (zf_ac ((fun H locs ws a q0 fs v rest pc ls hP hD hS he hl hv hdg kk => by obtain ⟨x, rfl, h1, h2⟩ := hv; rcases zf_01 h1 h2 with rfl | rfl <;> exact va_put (D := D) (ci := 11) (v := .int _) (ty := .boolean) (C := RX13) (T := TX13) (N := 47) (own := RX13) S.1 S.2.1 S.2.2.2.2 (zg_in inW_X13) tyX13 tyX13_ok nmX13 S.2.2.2.1 hK hP hD hS q0 he rfl 42 (by decide) (S.2.2.2.2 (.fieldLink RX13 434 "RungMoneyModel" "isWhole" "Z") (List.mem_cons_of_mem _ zw_1390)) (fun _ h9 => h9) rfl (by decide +kernel) rfl rfl hl hdg kk)) (zf_ac ((fun H locs ws a q0 fs v rest pc ls hP hD hS he hl hv hdg kk => by obtain ⟨x, rfl, h1, h2⟩ := hv; exact va_put (D := D) (ci := 11) (v := .int x) (ty := .int) (C := RX13) (T := TX13) (N := 47) (own := RX13) S.1 S.2.1 S.2.2.2.2 (zg_in inW_X13) tyX13 tyX13_ok nmX13 S.2.2.2.1 hK hP hD hS q0 he rfl 41 (by decide) (S.2.2.2.2 (.fieldLink RX13 425 "RungMoneyModel" "deep" "I") (List.mem_cons_of_mem _ zw_1389)) (fun _ h9 => h9) rfl (by decide +kernel) rfl rfl hl hdg kk)) zf_an))
  · exact xe_n2
  · exact xe_a3 ((fun H locs rest pc ls hdg kk => lv_ldc2 S.1 S.2.1 S.2.2.2.1 (S.2.2.2.2 (.constantLong RX13 110 6385252) (List.mem_cons_of_mem _ zw_1338)) hdg kk)) (xe_a3 ((fun H locs rest pc ls hdg kk => lv_ldc2 S.1 S.2.1 S.2.2.2.1 (S.2.2.2.2 (.constantLong RX13 108 28530) (List.mem_cons_of_mem _ zw_1337)) hdg kk)) xe_n3)
  · exact xe_a4 (xe_crV S hEx hE hAB hA hK hth (kx_X13_nots l D k B0 ad al sw) (cwV 0 S.2.2.2.2 (zg_V zw_1909 zw_1911 zw_86 zw_109 zw_1912) rfl rfl rfl (by decide +kernel) ⟨(Nat.le_of_ble_eq_true rfl), (Nat.le_of_ble_eq_true rfl)⟩) ⟨(Nat.le_of_ble_eq_true rfl), (Nat.le_of_ble_eq_true rfl)⟩ 11 rfl rfl 18 (by decide +kernel) fr_X13_nots) (xe_a4 (xe_crV S hEx hE hAB hA hK hth (kx_X13_isWord l D k B0 ad al sw) (cwV 1 S.2.2.2.2 (zg_V zw_1518 zw_1520 zw_30 zw_109 zw_1521) rfl rfl rfl (by decide +kernel) ⟨(Nat.le_of_ble_eq_true rfl), (Nat.le_of_ble_eq_true rfl)⟩) ⟨(Nat.le_of_ble_eq_true rfl), (Nat.le_of_ble_eq_true rfl)⟩ 11 rfl rfl 18 (by decide +kernel) fr_X13_isWord) (xe_a4 (xe_crV S hEx hE hAB hA hK hth (kx_X13_joins l D k B0 ad al sw) (cwV 1 S.2.2.2.2 (zg_V zw_1917 zw_1919 zw_88 zw_109 zw_1920) rfl rfl rfl (by decide +kernel) ⟨(Nat.le_of_ble_eq_true rfl), (Nat.le_of_ble_eq_true rfl)⟩) ⟨(Nat.le_of_ble_eq_true rfl), (Nat.le_of_ble_eq_true rfl)⟩ 11 rfl rfl 18 (by decide +kernel) fr_X13_joins) (xe_a4 (xe_crV S hEx hE hAB hA hK hth (kx_X13_next l D k B0 ad al sw) (cwV 0 S.2.2.2.2 (zg_V zw_1499 zw_1501 zw_27 zw_109 zw_1502) rfl rfl rfl (by decide +kernel) ⟨(Nat.le_of_ble_eq_true rfl), (Nat.le_of_ble_eq_true rfl)⟩) ⟨(Nat.le_of_ble_eq_true rfl), (Nat.le_of_ble_eq_true rfl)⟩ 11 rfl rfl 18 (by decide +kernel) fr_X13_next) (xe_a4 (xe_crV S hEx hE hAB hA hK hth (kx_X13_isSign l D k B0 ad al sw) (cwV 1 S.2.2.2.2 (zg_V zw_1568 zw_1570 zw_41 zw_109 zw_1571) rfl rfl rfl (by decide +kernel) ⟨(Nat.le_of_ble_eq_true rfl), (Nat.le_of_ble_eq_true rfl)⟩) ⟨(Nat.le_of_ble_eq_true rfl), (Nat.le_of_ble_eq_true rfl)⟩ 11 rfl rfl 18 (by decide +kernel) fr_X13_isSign) (xe_a4 (xe_crV S hEx hE hAB hA hK hth (kx_X13_bad l D k B0 ad al sw) (cwV 1 S.2.2.2.2 (zg_V zw_1522 zw_1524 zw_31 zw_109 zw_1525) rfl rfl rfl (by decide +kernel) ⟨(Nat.le_of_ble_eq_true rfl), (Nat.le_of_ble_eq_true rfl)⟩) ⟨(Nat.le_of_ble_eq_true rfl), (Nat.le_of_ble_eq_true rfl)⟩ 11 rfl rfl 18 (by decide +kernel) fr_X13_bad) xe_n4)))))
  · exact xe_n4
set_option maxRecDepth 100000 in
theorem pt_X13_behind_0 {I I1 I2 I3 I4 I5 I6 : Nat → Nat → Int32} {L L1 L2 L3 L4 L5 L6 : Nat → Nat → Int64} (c1 : fx_X13_nots [.ref 18] (I, L) none (I1, L1)) (c2 : fx_X13_isWord [.long (6385252 : Int64), .ref 18] (I1, L1) (some (.int 1)) (I2, L2)) (c3 : fx_X13_isWord [.long (6385252 : Int64), .ref 18] (I2, L2) (some (.int 1)) (I3, L3)) (c4 : fx_X13_joins [.int (21 : Int32), .ref 18] (I3, L3) none (I4, L4)) (c5 : fx_X13_isWord [.long (6385252 : Int64), .ref 18] (I4, L4) (some (.int 1)) (I5, L5)) (h1 : xe_ib (I4 18 40) 45 = true) (c6 : fx_X13_next [.ref 18] ((xu (xu (xu I5 31 (((I4 18 40)).toInt.toNat) (21 : Int32)) 18 40 ((I5 18 40) + (1 : Int32))) 18 42 (0 : Int32)), L5) none (I6, L6)) : ∃ n, xr_X13_behind n (0, [(0, .ref 18)], [], (I, L)) (some (.int (1 : Int32))) (I6, L6) := by
  refine xe_go 0 (s' := (1, [(0, .ref 18)], [.ref 18], (I, L))) rfl ?_
  refine xe_vir (n := 1) (f := fx_X13_nots) rfl (Nat.le_of_ble_eq_true rfl) (List.mem_of_getElem? (i := 0) rfl) (Nat.le_of_ble_eq_true rfl) c1 ?_
  refine xe_go 1 (s' := (8, [(0, .ref 18)], [.long (6385252 : Int64), .ref 18], (I1, L1))) rfl ?_
  refine xe_vir (n := 2) (f := fx_X13_isWord) rfl (Nat.le_of_ble_eq_true rfl) (List.mem_of_getElem? (i := 1) rfl) (Nat.le_of_ble_eq_true rfl) c2 ?_
  refine xe_go 3 (s' := (29, [(0, .ref 18)], [.long (6385252 : Int64), .ref 18, .ref 18], (I2, L2))) rfl ?_
  refine xe_vir (n := 2) (f := fx_X13_isWord) rfl (Nat.le_of_ble_eq_true rfl) (List.mem_of_getElem? (i := 1) rfl) (Nat.le_of_ble_eq_true rfl) c3 ?_
  refine xe_go 2 (s' := (42, [(0, .ref 18)], [.int (21 : Int32), .ref 18], (I3, L3))) rfl ?_
  refine xe_vir (n := 2) (f := fx_X13_joins) rfl (Nat.le_of_ble_eq_true rfl) (List.mem_of_getElem? (i := 2) rfl) (Nat.le_of_ble_eq_true rfl) c4 ?_
  refine xe_go 5 (s' := (57, [(0, .ref 18)], [.long (6385252 : Int64), .ref 18, .int (I4 18 40), .ref 31], (I4, L4))) rfl ?_
  refine xe_vir (n := 2) (f := fx_X13_isWord) rfl (Nat.le_of_ble_eq_true rfl) (List.mem_of_getElem? (i := 1) rfl) (Nat.le_of_ble_eq_true rfl) c5 ?_
  refine xe_ar 3 (A := (71, [(0, .ref 18)], [], ((xu I5 31 (((I4 18 40)).toInt.toNat) (21 : Int32)), L5))) h1 rfl ?_
  refine xe_go 9 (s' := (87, [(0, .ref 18)], [.ref 18], ((xu (xu (xu I5 31 (((I4 18 40)).toInt.toNat) (21 : Int32)) 18 40 ((I5 18 40) + (1 : Int32))) 18 42 (0 : Int32)), L5))) rfl ?_
  refine xe_vir (n := 1) (f := fx_X13_next) rfl (Nat.le_of_ble_eq_true rfl) (List.mem_of_getElem? (i := 3) rfl) (Nat.le_of_ble_eq_true rfl) c6 ?_
  refine xe_go 0 (s' := (91, [(0, .ref 18)], [.int (1 : Int32)], (I6, L6))) rfl ?_
  exact xe_end rfl rfl rfl
set_option maxRecDepth 100000 in
theorem pt_X13_behind_1 {I I1 I2 I3 I4 I5 I6 : Nat → Nat → Int32} {L L1 L2 L3 L4 L5 L6 : Nat → Nat → Int64} (c1 : fx_X13_nots [.ref 18] (I, L) none (I1, L1)) (c2 : fx_X13_isWord [.long (6385252 : Int64), .ref 18] (I1, L1) (some (.int 1)) (I2, L2)) (c3 : fx_X13_isWord [.long (6385252 : Int64), .ref 18] (I2, L2) (some (.int 1)) (I3, L3)) (c4 : fx_X13_joins [.int (21 : Int32), .ref 18] (I3, L3) none (I4, L4)) (c5 : fx_X13_isWord [.long (6385252 : Int64), .ref 18] (I4, L4) (some (.int 0)) (I5, L5)) (h1 : xe_ib (I4 18 40) 45 = true) (c6 : fx_X13_next [.ref 18] ((xu (xu (xu I5 31 (((I4 18 40)).toInt.toNat) (22 : Int32)) 18 40 ((I5 18 40) + (1 : Int32))) 18 42 (0 : Int32)), L5) none (I6, L6)) : ∃ n, xr_X13_behind n (0, [(0, .ref 18)], [], (I, L)) (some (.int (1 : Int32))) (I6, L6) := by
  refine xe_go 0 (s' := (1, [(0, .ref 18)], [.ref 18], (I, L))) rfl ?_
  refine xe_vir (n := 1) (f := fx_X13_nots) rfl (Nat.le_of_ble_eq_true rfl) (List.mem_of_getElem? (i := 0) rfl) (Nat.le_of_ble_eq_true rfl) c1 ?_
  refine xe_go 1 (s' := (8, [(0, .ref 18)], [.long (6385252 : Int64), .ref 18], (I1, L1))) rfl ?_
  refine xe_vir (n := 2) (f := fx_X13_isWord) rfl (Nat.le_of_ble_eq_true rfl) (List.mem_of_getElem? (i := 1) rfl) (Nat.le_of_ble_eq_true rfl) c2 ?_
  refine xe_go 3 (s' := (29, [(0, .ref 18)], [.long (6385252 : Int64), .ref 18, .ref 18], (I2, L2))) rfl ?_
  refine xe_vir (n := 2) (f := fx_X13_isWord) rfl (Nat.le_of_ble_eq_true rfl) (List.mem_of_getElem? (i := 1) rfl) (Nat.le_of_ble_eq_true rfl) c3 ?_
  refine xe_go 2 (s' := (42, [(0, .ref 18)], [.int (21 : Int32), .ref 18], (I3, L3))) rfl ?_
  refine xe_vir (n := 2) (f := fx_X13_joins) rfl (Nat.le_of_ble_eq_true rfl) (List.mem_of_getElem? (i := 2) rfl) (Nat.le_of_ble_eq_true rfl) c4 ?_
  refine xe_go 5 (s' := (57, [(0, .ref 18)], [.long (6385252 : Int64), .ref 18, .int (I4 18 40), .ref 31], (I4, L4))) rfl ?_
  refine xe_vir (n := 2) (f := fx_X13_isWord) rfl (Nat.le_of_ble_eq_true rfl) (List.mem_of_getElem? (i := 1) rfl) (Nat.le_of_ble_eq_true rfl) c5 ?_
  refine xe_ar 2 (A := (71, [(0, .ref 18)], [], ((xu I5 31 (((I4 18 40)).toInt.toNat) (22 : Int32)), L5))) h1 rfl ?_
  refine xe_go 9 (s' := (87, [(0, .ref 18)], [.ref 18], ((xu (xu (xu I5 31 (((I4 18 40)).toInt.toNat) (22 : Int32)) 18 40 ((I5 18 40) + (1 : Int32))) 18 42 (0 : Int32)), L5))) rfl ?_
  refine xe_vir (n := 1) (f := fx_X13_next) rfl (Nat.le_of_ble_eq_true rfl) (List.mem_of_getElem? (i := 3) rfl) (Nat.le_of_ble_eq_true rfl) c6 ?_
  refine xe_go 0 (s' := (91, [(0, .ref 18)], [.int (1 : Int32)], (I6, L6))) rfl ?_
  exact xe_end rfl rfl rfl
set_option maxRecDepth 100000 in
theorem pt_X13_behind_2 {I I1 I2 I3 I4 I5 I6 : Nat → Nat → Int32} {L L1 L2 L3 L4 L5 L6 : Nat → Nat → Int64} (c1 : fx_X13_nots [.ref 18] (I, L) none (I1, L1)) (c2 : fx_X13_isWord [.long (6385252 : Int64), .ref 18] (I1, L1) (some (.int 1)) (I2, L2)) (c3 : fx_X13_isWord [.long (6385252 : Int64), .ref 18] (I2, L2) (some (.int 0)) (I3, L3)) (c4 : fx_X13_joins [.int (22 : Int32), .ref 18] (I3, L3) none (I4, L4)) (c5 : fx_X13_isWord [.long (6385252 : Int64), .ref 18] (I4, L4) (some (.int 1)) (I5, L5)) (h1 : xe_ib (I4 18 40) 45 = true) (c6 : fx_X13_next [.ref 18] ((xu (xu (xu I5 31 (((I4 18 40)).toInt.toNat) (21 : Int32)) 18 40 ((I5 18 40) + (1 : Int32))) 18 42 (0 : Int32)), L5) none (I6, L6)) : ∃ n, xr_X13_behind n (0, [(0, .ref 18)], [], (I, L)) (some (.int (1 : Int32))) (I6, L6) := by
  refine xe_go 0 (s' := (1, [(0, .ref 18)], [.ref 18], (I, L))) rfl ?_
  refine xe_vir (n := 1) (f := fx_X13_nots) rfl (Nat.le_of_ble_eq_true rfl) (List.mem_of_getElem? (i := 0) rfl) (Nat.le_of_ble_eq_true rfl) c1 ?_
  refine xe_go 1 (s' := (8, [(0, .ref 18)], [.long (6385252 : Int64), .ref 18], (I1, L1))) rfl ?_
  refine xe_vir (n := 2) (f := fx_X13_isWord) rfl (Nat.le_of_ble_eq_true rfl) (List.mem_of_getElem? (i := 1) rfl) (Nat.le_of_ble_eq_true rfl) c2 ?_
  refine xe_go 3 (s' := (29, [(0, .ref 18)], [.long (6385252 : Int64), .ref 18, .ref 18], (I2, L2))) rfl ?_
  refine xe_vir (n := 2) (f := fx_X13_isWord) rfl (Nat.le_of_ble_eq_true rfl) (List.mem_of_getElem? (i := 1) rfl) (Nat.le_of_ble_eq_true rfl) c3 ?_
  refine xe_go 1 (s' := (42, [(0, .ref 18)], [.int (22 : Int32), .ref 18], (I3, L3))) rfl ?_
  refine xe_vir (n := 2) (f := fx_X13_joins) rfl (Nat.le_of_ble_eq_true rfl) (List.mem_of_getElem? (i := 2) rfl) (Nat.le_of_ble_eq_true rfl) c4 ?_
  refine xe_go 5 (s' := (57, [(0, .ref 18)], [.long (6385252 : Int64), .ref 18, .int (I4 18 40), .ref 31], (I4, L4))) rfl ?_
  refine xe_vir (n := 2) (f := fx_X13_isWord) rfl (Nat.le_of_ble_eq_true rfl) (List.mem_of_getElem? (i := 1) rfl) (Nat.le_of_ble_eq_true rfl) c5 ?_
  refine xe_ar 3 (A := (71, [(0, .ref 18)], [], ((xu I5 31 (((I4 18 40)).toInt.toNat) (21 : Int32)), L5))) h1 rfl ?_
  refine xe_go 9 (s' := (87, [(0, .ref 18)], [.ref 18], ((xu (xu (xu I5 31 (((I4 18 40)).toInt.toNat) (21 : Int32)) 18 40 ((I5 18 40) + (1 : Int32))) 18 42 (0 : Int32)), L5))) rfl ?_
  refine xe_vir (n := 1) (f := fx_X13_next) rfl (Nat.le_of_ble_eq_true rfl) (List.mem_of_getElem? (i := 3) rfl) (Nat.le_of_ble_eq_true rfl) c6 ?_
  refine xe_go 0 (s' := (91, [(0, .ref 18)], [.int (1 : Int32)], (I6, L6))) rfl ?_
  exact xe_end rfl rfl rfl
set_option maxRecDepth 100000 in
theorem pt_X13_behind_3 {I I1 I2 I3 I4 I5 I6 : Nat → Nat → Int32} {L L1 L2 L3 L4 L5 L6 : Nat → Nat → Int64} (c1 : fx_X13_nots [.ref 18] (I, L) none (I1, L1)) (c2 : fx_X13_isWord [.long (6385252 : Int64), .ref 18] (I1, L1) (some (.int 1)) (I2, L2)) (c3 : fx_X13_isWord [.long (6385252 : Int64), .ref 18] (I2, L2) (some (.int 0)) (I3, L3)) (c4 : fx_X13_joins [.int (22 : Int32), .ref 18] (I3, L3) none (I4, L4)) (c5 : fx_X13_isWord [.long (6385252 : Int64), .ref 18] (I4, L4) (some (.int 0)) (I5, L5)) (h1 : xe_ib (I4 18 40) 45 = true) (c6 : fx_X13_next [.ref 18] ((xu (xu (xu I5 31 (((I4 18 40)).toInt.toNat) (22 : Int32)) 18 40 ((I5 18 40) + (1 : Int32))) 18 42 (0 : Int32)), L5) none (I6, L6)) : ∃ n, xr_X13_behind n (0, [(0, .ref 18)], [], (I, L)) (some (.int (1 : Int32))) (I6, L6) := by
  refine xe_go 0 (s' := (1, [(0, .ref 18)], [.ref 18], (I, L))) rfl ?_
  refine xe_vir (n := 1) (f := fx_X13_nots) rfl (Nat.le_of_ble_eq_true rfl) (List.mem_of_getElem? (i := 0) rfl) (Nat.le_of_ble_eq_true rfl) c1 ?_
  refine xe_go 1 (s' := (8, [(0, .ref 18)], [.long (6385252 : Int64), .ref 18], (I1, L1))) rfl ?_
  refine xe_vir (n := 2) (f := fx_X13_isWord) rfl (Nat.le_of_ble_eq_true rfl) (List.mem_of_getElem? (i := 1) rfl) (Nat.le_of_ble_eq_true rfl) c2 ?_
  refine xe_go 3 (s' := (29, [(0, .ref 18)], [.long (6385252 : Int64), .ref 18, .ref 18], (I2, L2))) rfl ?_
  refine xe_vir (n := 2) (f := fx_X13_isWord) rfl (Nat.le_of_ble_eq_true rfl) (List.mem_of_getElem? (i := 1) rfl) (Nat.le_of_ble_eq_true rfl) c3 ?_
  refine xe_go 1 (s' := (42, [(0, .ref 18)], [.int (22 : Int32), .ref 18], (I3, L3))) rfl ?_
  refine xe_vir (n := 2) (f := fx_X13_joins) rfl (Nat.le_of_ble_eq_true rfl) (List.mem_of_getElem? (i := 2) rfl) (Nat.le_of_ble_eq_true rfl) c4 ?_
  refine xe_go 5 (s' := (57, [(0, .ref 18)], [.long (6385252 : Int64), .ref 18, .int (I4 18 40), .ref 31], (I4, L4))) rfl ?_
  refine xe_vir (n := 2) (f := fx_X13_isWord) rfl (Nat.le_of_ble_eq_true rfl) (List.mem_of_getElem? (i := 1) rfl) (Nat.le_of_ble_eq_true rfl) c5 ?_
  refine xe_ar 2 (A := (71, [(0, .ref 18)], [], ((xu I5 31 (((I4 18 40)).toInt.toNat) (22 : Int32)), L5))) h1 rfl ?_
  refine xe_go 9 (s' := (87, [(0, .ref 18)], [.ref 18], ((xu (xu (xu I5 31 (((I4 18 40)).toInt.toNat) (22 : Int32)) 18 40 ((I5 18 40) + (1 : Int32))) 18 42 (0 : Int32)), L5))) rfl ?_
  refine xe_vir (n := 1) (f := fx_X13_next) rfl (Nat.le_of_ble_eq_true rfl) (List.mem_of_getElem? (i := 3) rfl) (Nat.le_of_ble_eq_true rfl) c6 ?_
  refine xe_go 0 (s' := (91, [(0, .ref 18)], [.int (1 : Int32)], (I6, L6))) rfl ?_
  exact xe_end rfl rfl rfl
set_option maxRecDepth 100000 in
theorem pt_X13_behind_4 {I I1 I2 I3 I4 I5 I6 I7 : Nat → Nat → Int32} {L L1 L2 L3 L4 L5 L6 L7 : Nat → Nat → Int64} (c1 : fx_X13_nots [.ref 18] (I, L) none (I1, L1)) (c2 : fx_X13_isWord [.long (6385252 : Int64), .ref 18] (I1, L1) (some (.int 0)) (I2, L2)) (c3 : fx_X13_isWord [.long (28530 : Int64), .ref 18] (I2, L2) (some (.int 1)) (I3, L3)) (c4 : fx_X13_isWord [.long (6385252 : Int64), .ref 18] (I3, L3) (some (.int 1)) (I4, L4)) (c5 : fx_X13_joins [.int (21 : Int32), .ref 18] (I4, L4) none (I5, L5)) (c6 : fx_X13_isWord [.long (6385252 : Int64), .ref 18] (I5, L5) (some (.int 1)) (I6, L6)) (h1 : xe_ib (I5 18 40) 45 = true) (c7 : fx_X13_next [.ref 18] ((xu (xu (xu I6 31 (((I5 18 40)).toInt.toNat) (21 : Int32)) 18 40 ((I6 18 40) + (1 : Int32))) 18 42 (0 : Int32)), L6) none (I7, L7)) : ∃ n, xr_X13_behind n (0, [(0, .ref 18)], [], (I, L)) (some (.int (1 : Int32))) (I7, L7) := by
  refine xe_go 0 (s' := (1, [(0, .ref 18)], [.ref 18], (I, L))) rfl ?_
  refine xe_vir (n := 1) (f := fx_X13_nots) rfl (Nat.le_of_ble_eq_true rfl) (List.mem_of_getElem? (i := 0) rfl) (Nat.le_of_ble_eq_true rfl) c1 ?_
  refine xe_go 1 (s' := (8, [(0, .ref 18)], [.long (6385252 : Int64), .ref 18], (I1, L1))) rfl ?_
  refine xe_vir (n := 2) (f := fx_X13_isWord) rfl (Nat.le_of_ble_eq_true rfl) (List.mem_of_getElem? (i := 1) rfl) (Nat.le_of_ble_eq_true rfl) c2 ?_
  refine xe_go 2 (s' := (18, [(0, .ref 18)], [.long (28530 : Int64), .ref 18], (I2, L2))) rfl ?_
  refine xe_vir (n := 2) (f := fx_X13_isWord) rfl (Nat.le_of_ble_eq_true rfl) (List.mem_of_getElem? (i := 1) rfl) (Nat.le_of_ble_eq_true rfl) c3 ?_
  refine xe_go 3 (s' := (29, [(0, .ref 18)], [.long (6385252 : Int64), .ref 18, .ref 18], (I3, L3))) rfl ?_
  refine xe_vir (n := 2) (f := fx_X13_isWord) rfl (Nat.le_of_ble_eq_true rfl) (List.mem_of_getElem? (i := 1) rfl) (Nat.le_of_ble_eq_true rfl) c4 ?_
  refine xe_go 2 (s' := (42, [(0, .ref 18)], [.int (21 : Int32), .ref 18], (I4, L4))) rfl ?_
  refine xe_vir (n := 2) (f := fx_X13_joins) rfl (Nat.le_of_ble_eq_true rfl) (List.mem_of_getElem? (i := 2) rfl) (Nat.le_of_ble_eq_true rfl) c5 ?_
  refine xe_go 5 (s' := (57, [(0, .ref 18)], [.long (6385252 : Int64), .ref 18, .int (I5 18 40), .ref 31], (I5, L5))) rfl ?_
  refine xe_vir (n := 2) (f := fx_X13_isWord) rfl (Nat.le_of_ble_eq_true rfl) (List.mem_of_getElem? (i := 1) rfl) (Nat.le_of_ble_eq_true rfl) c6 ?_
  refine xe_ar 3 (A := (71, [(0, .ref 18)], [], ((xu I6 31 (((I5 18 40)).toInt.toNat) (21 : Int32)), L6))) h1 rfl ?_
  refine xe_go 9 (s' := (87, [(0, .ref 18)], [.ref 18], ((xu (xu (xu I6 31 (((I5 18 40)).toInt.toNat) (21 : Int32)) 18 40 ((I6 18 40) + (1 : Int32))) 18 42 (0 : Int32)), L6))) rfl ?_
  refine xe_vir (n := 1) (f := fx_X13_next) rfl (Nat.le_of_ble_eq_true rfl) (List.mem_of_getElem? (i := 3) rfl) (Nat.le_of_ble_eq_true rfl) c7 ?_
  refine xe_go 0 (s' := (91, [(0, .ref 18)], [.int (1 : Int32)], (I7, L7))) rfl ?_
  exact xe_end rfl rfl rfl
set_option maxRecDepth 100000 in
theorem pt_X13_behind_5 {I I1 I2 I3 I4 I5 I6 I7 : Nat → Nat → Int32} {L L1 L2 L3 L4 L5 L6 L7 : Nat → Nat → Int64} (c1 : fx_X13_nots [.ref 18] (I, L) none (I1, L1)) (c2 : fx_X13_isWord [.long (6385252 : Int64), .ref 18] (I1, L1) (some (.int 0)) (I2, L2)) (c3 : fx_X13_isWord [.long (28530 : Int64), .ref 18] (I2, L2) (some (.int 1)) (I3, L3)) (c4 : fx_X13_isWord [.long (6385252 : Int64), .ref 18] (I3, L3) (some (.int 1)) (I4, L4)) (c5 : fx_X13_joins [.int (21 : Int32), .ref 18] (I4, L4) none (I5, L5)) (c6 : fx_X13_isWord [.long (6385252 : Int64), .ref 18] (I5, L5) (some (.int 0)) (I6, L6)) (h1 : xe_ib (I5 18 40) 45 = true) (c7 : fx_X13_next [.ref 18] ((xu (xu (xu I6 31 (((I5 18 40)).toInt.toNat) (22 : Int32)) 18 40 ((I6 18 40) + (1 : Int32))) 18 42 (0 : Int32)), L6) none (I7, L7)) : ∃ n, xr_X13_behind n (0, [(0, .ref 18)], [], (I, L)) (some (.int (1 : Int32))) (I7, L7) := by
  refine xe_go 0 (s' := (1, [(0, .ref 18)], [.ref 18], (I, L))) rfl ?_
  refine xe_vir (n := 1) (f := fx_X13_nots) rfl (Nat.le_of_ble_eq_true rfl) (List.mem_of_getElem? (i := 0) rfl) (Nat.le_of_ble_eq_true rfl) c1 ?_
  refine xe_go 1 (s' := (8, [(0, .ref 18)], [.long (6385252 : Int64), .ref 18], (I1, L1))) rfl ?_
  refine xe_vir (n := 2) (f := fx_X13_isWord) rfl (Nat.le_of_ble_eq_true rfl) (List.mem_of_getElem? (i := 1) rfl) (Nat.le_of_ble_eq_true rfl) c2 ?_
  refine xe_go 2 (s' := (18, [(0, .ref 18)], [.long (28530 : Int64), .ref 18], (I2, L2))) rfl ?_
  refine xe_vir (n := 2) (f := fx_X13_isWord) rfl (Nat.le_of_ble_eq_true rfl) (List.mem_of_getElem? (i := 1) rfl) (Nat.le_of_ble_eq_true rfl) c3 ?_
  refine xe_go 3 (s' := (29, [(0, .ref 18)], [.long (6385252 : Int64), .ref 18, .ref 18], (I3, L3))) rfl ?_
  refine xe_vir (n := 2) (f := fx_X13_isWord) rfl (Nat.le_of_ble_eq_true rfl) (List.mem_of_getElem? (i := 1) rfl) (Nat.le_of_ble_eq_true rfl) c4 ?_
  refine xe_go 2 (s' := (42, [(0, .ref 18)], [.int (21 : Int32), .ref 18], (I4, L4))) rfl ?_
  refine xe_vir (n := 2) (f := fx_X13_joins) rfl (Nat.le_of_ble_eq_true rfl) (List.mem_of_getElem? (i := 2) rfl) (Nat.le_of_ble_eq_true rfl) c5 ?_
  refine xe_go 5 (s' := (57, [(0, .ref 18)], [.long (6385252 : Int64), .ref 18, .int (I5 18 40), .ref 31], (I5, L5))) rfl ?_
  refine xe_vir (n := 2) (f := fx_X13_isWord) rfl (Nat.le_of_ble_eq_true rfl) (List.mem_of_getElem? (i := 1) rfl) (Nat.le_of_ble_eq_true rfl) c6 ?_
  refine xe_ar 2 (A := (71, [(0, .ref 18)], [], ((xu I6 31 (((I5 18 40)).toInt.toNat) (22 : Int32)), L6))) h1 rfl ?_
  refine xe_go 9 (s' := (87, [(0, .ref 18)], [.ref 18], ((xu (xu (xu I6 31 (((I5 18 40)).toInt.toNat) (22 : Int32)) 18 40 ((I6 18 40) + (1 : Int32))) 18 42 (0 : Int32)), L6))) rfl ?_
  refine xe_vir (n := 1) (f := fx_X13_next) rfl (Nat.le_of_ble_eq_true rfl) (List.mem_of_getElem? (i := 3) rfl) (Nat.le_of_ble_eq_true rfl) c7 ?_
  refine xe_go 0 (s' := (91, [(0, .ref 18)], [.int (1 : Int32)], (I7, L7))) rfl ?_
  exact xe_end rfl rfl rfl
set_option maxRecDepth 100000 in
theorem pt_X13_behind_6 {I I1 I2 I3 I4 I5 I6 I7 : Nat → Nat → Int32} {L L1 L2 L3 L4 L5 L6 L7 : Nat → Nat → Int64} (c1 : fx_X13_nots [.ref 18] (I, L) none (I1, L1)) (c2 : fx_X13_isWord [.long (6385252 : Int64), .ref 18] (I1, L1) (some (.int 0)) (I2, L2)) (c3 : fx_X13_isWord [.long (28530 : Int64), .ref 18] (I2, L2) (some (.int 1)) (I3, L3)) (c4 : fx_X13_isWord [.long (6385252 : Int64), .ref 18] (I3, L3) (some (.int 0)) (I4, L4)) (c5 : fx_X13_joins [.int (22 : Int32), .ref 18] (I4, L4) none (I5, L5)) (c6 : fx_X13_isWord [.long (6385252 : Int64), .ref 18] (I5, L5) (some (.int 1)) (I6, L6)) (h1 : xe_ib (I5 18 40) 45 = true) (c7 : fx_X13_next [.ref 18] ((xu (xu (xu I6 31 (((I5 18 40)).toInt.toNat) (21 : Int32)) 18 40 ((I6 18 40) + (1 : Int32))) 18 42 (0 : Int32)), L6) none (I7, L7)) : ∃ n, xr_X13_behind n (0, [(0, .ref 18)], [], (I, L)) (some (.int (1 : Int32))) (I7, L7) := by
  refine xe_go 0 (s' := (1, [(0, .ref 18)], [.ref 18], (I, L))) rfl ?_
  refine xe_vir (n := 1) (f := fx_X13_nots) rfl (Nat.le_of_ble_eq_true rfl) (List.mem_of_getElem? (i := 0) rfl) (Nat.le_of_ble_eq_true rfl) c1 ?_
  refine xe_go 1 (s' := (8, [(0, .ref 18)], [.long (6385252 : Int64), .ref 18], (I1, L1))) rfl ?_
  refine xe_vir (n := 2) (f := fx_X13_isWord) rfl (Nat.le_of_ble_eq_true rfl) (List.mem_of_getElem? (i := 1) rfl) (Nat.le_of_ble_eq_true rfl) c2 ?_
  refine xe_go 2 (s' := (18, [(0, .ref 18)], [.long (28530 : Int64), .ref 18], (I2, L2))) rfl ?_
  refine xe_vir (n := 2) (f := fx_X13_isWord) rfl (Nat.le_of_ble_eq_true rfl) (List.mem_of_getElem? (i := 1) rfl) (Nat.le_of_ble_eq_true rfl) c3 ?_
  refine xe_go 3 (s' := (29, [(0, .ref 18)], [.long (6385252 : Int64), .ref 18, .ref 18], (I3, L3))) rfl ?_
  refine xe_vir (n := 2) (f := fx_X13_isWord) rfl (Nat.le_of_ble_eq_true rfl) (List.mem_of_getElem? (i := 1) rfl) (Nat.le_of_ble_eq_true rfl) c4 ?_
  refine xe_go 1 (s' := (42, [(0, .ref 18)], [.int (22 : Int32), .ref 18], (I4, L4))) rfl ?_
  refine xe_vir (n := 2) (f := fx_X13_joins) rfl (Nat.le_of_ble_eq_true rfl) (List.mem_of_getElem? (i := 2) rfl) (Nat.le_of_ble_eq_true rfl) c5 ?_
  refine xe_go 5 (s' := (57, [(0, .ref 18)], [.long (6385252 : Int64), .ref 18, .int (I5 18 40), .ref 31], (I5, L5))) rfl ?_
  refine xe_vir (n := 2) (f := fx_X13_isWord) rfl (Nat.le_of_ble_eq_true rfl) (List.mem_of_getElem? (i := 1) rfl) (Nat.le_of_ble_eq_true rfl) c6 ?_
  refine xe_ar 3 (A := (71, [(0, .ref 18)], [], ((xu I6 31 (((I5 18 40)).toInt.toNat) (21 : Int32)), L6))) h1 rfl ?_
  refine xe_go 9 (s' := (87, [(0, .ref 18)], [.ref 18], ((xu (xu (xu I6 31 (((I5 18 40)).toInt.toNat) (21 : Int32)) 18 40 ((I6 18 40) + (1 : Int32))) 18 42 (0 : Int32)), L6))) rfl ?_
  refine xe_vir (n := 1) (f := fx_X13_next) rfl (Nat.le_of_ble_eq_true rfl) (List.mem_of_getElem? (i := 3) rfl) (Nat.le_of_ble_eq_true rfl) c7 ?_
  refine xe_go 0 (s' := (91, [(0, .ref 18)], [.int (1 : Int32)], (I7, L7))) rfl ?_
  exact xe_end rfl rfl rfl
set_option maxRecDepth 100000 in
theorem pt_X13_behind_7 {I I1 I2 I3 I4 I5 I6 I7 : Nat → Nat → Int32} {L L1 L2 L3 L4 L5 L6 L7 : Nat → Nat → Int64} (c1 : fx_X13_nots [.ref 18] (I, L) none (I1, L1)) (c2 : fx_X13_isWord [.long (6385252 : Int64), .ref 18] (I1, L1) (some (.int 0)) (I2, L2)) (c3 : fx_X13_isWord [.long (28530 : Int64), .ref 18] (I2, L2) (some (.int 1)) (I3, L3)) (c4 : fx_X13_isWord [.long (6385252 : Int64), .ref 18] (I3, L3) (some (.int 0)) (I4, L4)) (c5 : fx_X13_joins [.int (22 : Int32), .ref 18] (I4, L4) none (I5, L5)) (c6 : fx_X13_isWord [.long (6385252 : Int64), .ref 18] (I5, L5) (some (.int 0)) (I6, L6)) (h1 : xe_ib (I5 18 40) 45 = true) (c7 : fx_X13_next [.ref 18] ((xu (xu (xu I6 31 (((I5 18 40)).toInt.toNat) (22 : Int32)) 18 40 ((I6 18 40) + (1 : Int32))) 18 42 (0 : Int32)), L6) none (I7, L7)) : ∃ n, xr_X13_behind n (0, [(0, .ref 18)], [], (I, L)) (some (.int (1 : Int32))) (I7, L7) := by
  refine xe_go 0 (s' := (1, [(0, .ref 18)], [.ref 18], (I, L))) rfl ?_
  refine xe_vir (n := 1) (f := fx_X13_nots) rfl (Nat.le_of_ble_eq_true rfl) (List.mem_of_getElem? (i := 0) rfl) (Nat.le_of_ble_eq_true rfl) c1 ?_
  refine xe_go 1 (s' := (8, [(0, .ref 18)], [.long (6385252 : Int64), .ref 18], (I1, L1))) rfl ?_
  refine xe_vir (n := 2) (f := fx_X13_isWord) rfl (Nat.le_of_ble_eq_true rfl) (List.mem_of_getElem? (i := 1) rfl) (Nat.le_of_ble_eq_true rfl) c2 ?_
  refine xe_go 2 (s' := (18, [(0, .ref 18)], [.long (28530 : Int64), .ref 18], (I2, L2))) rfl ?_
  refine xe_vir (n := 2) (f := fx_X13_isWord) rfl (Nat.le_of_ble_eq_true rfl) (List.mem_of_getElem? (i := 1) rfl) (Nat.le_of_ble_eq_true rfl) c3 ?_
  refine xe_go 3 (s' := (29, [(0, .ref 18)], [.long (6385252 : Int64), .ref 18, .ref 18], (I3, L3))) rfl ?_
  refine xe_vir (n := 2) (f := fx_X13_isWord) rfl (Nat.le_of_ble_eq_true rfl) (List.mem_of_getElem? (i := 1) rfl) (Nat.le_of_ble_eq_true rfl) c4 ?_
  refine xe_go 1 (s' := (42, [(0, .ref 18)], [.int (22 : Int32), .ref 18], (I4, L4))) rfl ?_
  refine xe_vir (n := 2) (f := fx_X13_joins) rfl (Nat.le_of_ble_eq_true rfl) (List.mem_of_getElem? (i := 2) rfl) (Nat.le_of_ble_eq_true rfl) c5 ?_
  refine xe_go 5 (s' := (57, [(0, .ref 18)], [.long (6385252 : Int64), .ref 18, .int (I5 18 40), .ref 31], (I5, L5))) rfl ?_
  refine xe_vir (n := 2) (f := fx_X13_isWord) rfl (Nat.le_of_ble_eq_true rfl) (List.mem_of_getElem? (i := 1) rfl) (Nat.le_of_ble_eq_true rfl) c6 ?_
  refine xe_ar 2 (A := (71, [(0, .ref 18)], [], ((xu I6 31 (((I5 18 40)).toInt.toNat) (22 : Int32)), L6))) h1 rfl ?_
  refine xe_go 9 (s' := (87, [(0, .ref 18)], [.ref 18], ((xu (xu (xu I6 31 (((I5 18 40)).toInt.toNat) (22 : Int32)) 18 40 ((I6 18 40) + (1 : Int32))) 18 42 (0 : Int32)), L6))) rfl ?_
  refine xe_vir (n := 1) (f := fx_X13_next) rfl (Nat.le_of_ble_eq_true rfl) (List.mem_of_getElem? (i := 3) rfl) (Nat.le_of_ble_eq_true rfl) c7 ?_
  refine xe_go 0 (s' := (91, [(0, .ref 18)], [.int (1 : Int32)], (I7, L7))) rfl ?_
  exact xe_end rfl rfl rfl
set_option maxRecDepth 100000 in
theorem pt_X13_behind_8 {I I1 I2 I3 I4 I5 I6 : Nat → Nat → Int32} {L L1 L2 L3 L4 L5 L6 : Nat → Nat → Int64} (c1 : fx_X13_nots [.ref 18] (I, L) none (I1, L1)) (c2 : fx_X13_isWord [.long (6385252 : Int64), .ref 18] (I1, L1) (some (.int 0)) (I2, L2)) (c3 : fx_X13_isWord [.long (28530 : Int64), .ref 18] (I2, L2) (some (.int 0)) (I3, L3)) (c4 : fx_X13_joins [.int (22 : Int32), .ref 18] (I3, L3) none (I4, L4)) (c5 : fx_X13_isSign [.int (41 : Int32), .ref 18] (I4, L4) (some (.int 1)) (I5, L5)) (h1 : (xe_cmp .ne (I5 18 40) 0) = true) (c6 : fx_X13_next [.ref 18] ((xu (xu I5 18 40 ((I5 18 40) - (1 : Int32))) 18 41 ((I5 18 41) - (1 : Int32))), L5) none (I6, L6)) : ∃ n, xr_X13_behind n (0, [(0, .ref 18)], [], (I, L)) (some (.int (1 : Int32))) (I6, L6) := by
  refine xe_go 0 (s' := (1, [(0, .ref 18)], [.ref 18], (I, L))) rfl ?_
  refine xe_vir (n := 1) (f := fx_X13_nots) rfl (Nat.le_of_ble_eq_true rfl) (List.mem_of_getElem? (i := 0) rfl) (Nat.le_of_ble_eq_true rfl) c1 ?_
  refine xe_go 1 (s' := (8, [(0, .ref 18)], [.long (6385252 : Int64), .ref 18], (I1, L1))) rfl ?_
  refine xe_vir (n := 2) (f := fx_X13_isWord) rfl (Nat.le_of_ble_eq_true rfl) (List.mem_of_getElem? (i := 1) rfl) (Nat.le_of_ble_eq_true rfl) c2 ?_
  refine xe_go 2 (s' := (18, [(0, .ref 18)], [.long (28530 : Int64), .ref 18], (I2, L2))) rfl ?_
  refine xe_vir (n := 2) (f := fx_X13_isWord) rfl (Nat.le_of_ble_eq_true rfl) (List.mem_of_getElem? (i := 1) rfl) (Nat.le_of_ble_eq_true rfl) c3 ?_
  refine xe_go 2 (s' := (95, [(0, .ref 18)], [.int (22 : Int32), .ref 18], (I3, L3))) rfl ?_
  refine xe_vir (n := 2) (f := fx_X13_joins) rfl (Nat.le_of_ble_eq_true rfl) (List.mem_of_getElem? (i := 2) rfl) (Nat.le_of_ble_eq_true rfl) c4 ?_
  refine xe_go 1 (s' := (101, [(0, .ref 18)], [.int (41 : Int32), .ref 18], (I4, L4))) rfl ?_
  refine xe_vir (n := 2) (f := fx_X13_isSign) rfl (Nat.le_of_ble_eq_true rfl) (List.mem_of_getElem? (i := 4) rfl) (Nat.le_of_ble_eq_true rfl) c5 ?_
  refine xe_bT 3 (A := (120, [(0, .ref 18)], [], (I5, L5))) (B := (114, [(0, .ref 18)], [], (I5, L5))) h1 rfl ?_
  refine xe_go 12 (s' := (141, [(0, .ref 18)], [.ref 18], ((xu (xu I5 18 40 ((I5 18 40) - (1 : Int32))) 18 41 ((I5 18 41) - (1 : Int32))), L5))) rfl ?_
  refine xe_vir (n := 1) (f := fx_X13_next) rfl (Nat.le_of_ble_eq_true rfl) (List.mem_of_getElem? (i := 3) rfl) (Nat.le_of_ble_eq_true rfl) c6 ?_
  refine xe_go 0 (s' := (145, [(0, .ref 18)], [.int (1 : Int32)], (I6, L6))) rfl ?_
  exact xe_end rfl rfl rfl
set_option maxRecDepth 100000 in
theorem pt_X13_behind_9 {I I1 I2 I3 I4 I5 I6 : Nat → Nat → Int32} {L L1 L2 L3 L4 L5 L6 : Nat → Nat → Int64} (c1 : fx_X13_nots [.ref 18] (I, L) none (I1, L1)) (c2 : fx_X13_isWord [.long (6385252 : Int64), .ref 18] (I1, L1) (some (.int 0)) (I2, L2)) (c3 : fx_X13_isWord [.long (28530 : Int64), .ref 18] (I2, L2) (some (.int 0)) (I3, L3)) (c4 : fx_X13_joins [.int (22 : Int32), .ref 18] (I3, L3) none (I4, L4)) (c5 : fx_X13_isSign [.int (41 : Int32), .ref 18] (I4, L4) (some (.int 1)) (I5, L5)) (h1 : (xe_cmp .ne (I5 18 40) 0) = false) (c6 : fx_X13_bad [.int (1 : Int32), .ref 18] (I5, L5) (some (.int 0)) (I6, L6)) : ∃ n, xr_X13_behind n (0, [(0, .ref 18)], [], (I, L)) (some (.int 0)) (I6, L6) := by
  refine xe_go 0 (s' := (1, [(0, .ref 18)], [.ref 18], (I, L))) rfl ?_
  refine xe_vir (n := 1) (f := fx_X13_nots) rfl (Nat.le_of_ble_eq_true rfl) (List.mem_of_getElem? (i := 0) rfl) (Nat.le_of_ble_eq_true rfl) c1 ?_
  refine xe_go 1 (s' := (8, [(0, .ref 18)], [.long (6385252 : Int64), .ref 18], (I1, L1))) rfl ?_
  refine xe_vir (n := 2) (f := fx_X13_isWord) rfl (Nat.le_of_ble_eq_true rfl) (List.mem_of_getElem? (i := 1) rfl) (Nat.le_of_ble_eq_true rfl) c2 ?_
  refine xe_go 2 (s' := (18, [(0, .ref 18)], [.long (28530 : Int64), .ref 18], (I2, L2))) rfl ?_
  refine xe_vir (n := 2) (f := fx_X13_isWord) rfl (Nat.le_of_ble_eq_true rfl) (List.mem_of_getElem? (i := 1) rfl) (Nat.le_of_ble_eq_true rfl) c3 ?_
  refine xe_go 2 (s' := (95, [(0, .ref 18)], [.int (22 : Int32), .ref 18], (I3, L3))) rfl ?_
  refine xe_vir (n := 2) (f := fx_X13_joins) rfl (Nat.le_of_ble_eq_true rfl) (List.mem_of_getElem? (i := 2) rfl) (Nat.le_of_ble_eq_true rfl) c4 ?_
  refine xe_go 1 (s' := (101, [(0, .ref 18)], [.int (41 : Int32), .ref 18], (I4, L4))) rfl ?_
  refine xe_vir (n := 2) (f := fx_X13_isSign) rfl (Nat.le_of_ble_eq_true rfl) (List.mem_of_getElem? (i := 4) rfl) (Nat.le_of_ble_eq_true rfl) c5 ?_
  refine xe_bF 3 (A := (120, [(0, .ref 18)], [], (I5, L5))) (B := (114, [(0, .ref 18)], [], (I5, L5))) h1 rfl ?_
  refine xe_go 1 (s' := (116, [(0, .ref 18)], [.int (1 : Int32), .ref 18], (I5, L5))) rfl ?_
  refine xe_vir (n := 2) (f := fx_X13_bad) rfl (Nat.le_of_ble_eq_true rfl) (List.mem_of_getElem? (i := 5) rfl) (Nat.le_of_ble_eq_true rfl) c6 ?_
  exact xe_end rfl rfl rfl
set_option maxRecDepth 100000 in
theorem pt_X13_behind_10 {I I1 I2 I3 I4 I5 I6 : Nat → Nat → Int32} {L L1 L2 L3 L4 L5 L6 : Nat → Nat → Int64} (c1 : fx_X13_nots [.ref 18] (I, L) none (I1, L1)) (c2 : fx_X13_isWord [.long (6385252 : Int64), .ref 18] (I1, L1) (some (.int 0)) (I2, L2)) (c3 : fx_X13_isWord [.long (28530 : Int64), .ref 18] (I2, L2) (some (.int 0)) (I3, L3)) (c4 : fx_X13_joins [.int (22 : Int32), .ref 18] (I3, L3) none (I4, L4)) (c5 : fx_X13_isSign [.int (41 : Int32), .ref 18] (I4, L4) (some (.int 0)) (I5, L5)) (c6 : fx_X13_bad [.int (1 : Int32), .ref 18] (I5, L5) (some (.int 0)) (I6, L6)) : ∃ n, xr_X13_behind n (0, [(0, .ref 18)], [], (I, L)) (some (.int 0)) (I6, L6) := by
  refine xe_go 0 (s' := (1, [(0, .ref 18)], [.ref 18], (I, L))) rfl ?_
  refine xe_vir (n := 1) (f := fx_X13_nots) rfl (Nat.le_of_ble_eq_true rfl) (List.mem_of_getElem? (i := 0) rfl) (Nat.le_of_ble_eq_true rfl) c1 ?_
  refine xe_go 1 (s' := (8, [(0, .ref 18)], [.long (6385252 : Int64), .ref 18], (I1, L1))) rfl ?_
  refine xe_vir (n := 2) (f := fx_X13_isWord) rfl (Nat.le_of_ble_eq_true rfl) (List.mem_of_getElem? (i := 1) rfl) (Nat.le_of_ble_eq_true rfl) c2 ?_
  refine xe_go 2 (s' := (18, [(0, .ref 18)], [.long (28530 : Int64), .ref 18], (I2, L2))) rfl ?_
  refine xe_vir (n := 2) (f := fx_X13_isWord) rfl (Nat.le_of_ble_eq_true rfl) (List.mem_of_getElem? (i := 1) rfl) (Nat.le_of_ble_eq_true rfl) c3 ?_
  refine xe_go 2 (s' := (95, [(0, .ref 18)], [.int (22 : Int32), .ref 18], (I3, L3))) rfl ?_
  refine xe_vir (n := 2) (f := fx_X13_joins) rfl (Nat.le_of_ble_eq_true rfl) (List.mem_of_getElem? (i := 2) rfl) (Nat.le_of_ble_eq_true rfl) c4 ?_
  refine xe_go 1 (s' := (101, [(0, .ref 18)], [.int (41 : Int32), .ref 18], (I4, L4))) rfl ?_
  refine xe_vir (n := 2) (f := fx_X13_isSign) rfl (Nat.le_of_ble_eq_true rfl) (List.mem_of_getElem? (i := 4) rfl) (Nat.le_of_ble_eq_true rfl) c5 ?_
  refine xe_go 2 (s' := (116, [(0, .ref 18)], [.int (1 : Int32), .ref 18], (I5, L5))) rfl ?_
  refine xe_vir (n := 2) (f := fx_X13_bad) rfl (Nat.le_of_ble_eq_true rfl) (List.mem_of_getElem? (i := 5) rfl) (Nat.le_of_ble_eq_true rfl) c6 ?_
  exact xe_end rfl rfl rfl
def xi_X13_sentence : List (Nat × Nat × Instr) := [(0, 1, .aload_n 0), (1, 1, .iconst 0), (2, 3, .putfield 1), (5, 1, .aload_n 0), (6, 3, .sipush 200), (9, 3, .invokevirtual 223), (12, 1, .aload_n 0), (13, 1, .iconst 0), (14, 3, .putfield 159), (17, 1, .aload_n 0), (18, 1, .iconst 0), (19, 3, .putfield 416), (22, 1, .aload_n 0), (23, 1, .iconst 0), (24, 3, .putfield 431), (27, 1, .aload_n 0), (28, 1, .iconst 0), (29, 3, .putfield 419), (32, 1, .aload_n 0), (33, 1, .iconst 1), (34, 3, .putfield 425), (37, 1, .aload_n 0), (38, 1, .iconst 0), (39, 3, .putfield 434), (42, 1, .aload_n 0), (43, 3, .invokevirtual 171), (46, 1, .iconst 1), (47, 1, .istore_n 1), (48, 1, .iload_n 1), (49, 3, .ifCond .eq 83), (52, 1, .aload_n 0), (53, 3, .getfield 434), (56, 3, .ifCond .eq 45), (59, 1, .aload_n 0), (60, 3, .getfield 140), (63, 3, .ifCond .ne 38), (66, 1, .aload_n 0), (67, 3, .invokevirtual 437), (70, 1, .aload_n 0), (71, 2, .bipush 22), (73, 3, .invokevirtual 440), (76, 1, .aload_n 0), (77, 3, .getfield 419), (80, 3, .ifCond .le 16), (83, 1, .aload_n 0), (84, 1, .iconst 1), (85, 3, .invokevirtual 168), (88, 1, .pop), (89, 1, .iconst (-1)), (90, 1, .aload_n 0), (91, 3, .getfield 162), (94, 1, .isub), (95, 1, .ireturn), (96, 1, .iconst 0), (97, 1, .istore_n 1), (98, 3, .goto (-50)), (101, 1, .aload_n 0), (102, 3, .getfield 434), (105, 3, .ifCond .eq 13), (108, 1, .aload_n 0), (109, 3, .invokevirtual 443), (112, 3, .ifCond .ne (-64)), (115, 3, .goto 10), (118, 1, .aload_n 0), (119, 3, .invokevirtual 446), (122, 3, .ifCond .ne (-74)), (125, 1, .iconst (-1)), (126, 1, .aload_n 0), (127, 3, .getfield 162), (130, 1, .isub), (131, 1, .ireturn), (132, 1, .aload_n 0), (133, 3, .getfield 33), (136, 3, .sipush 693), (139, 1, .aload_n 0), (140, 3, .getfield 416), (143, 1, .iastore), (144, 1, .iconst 0), (145, 1, .istore_n 2), (146, 1, .iload_n 2), (147, 1, .iconst 3), (148, 1, .aload_n 0), (149, 3, .getfield 416), (152, 1, .imul), (153, 3, .if_icmp .ge 25), (156, 1, .aload_n 0), (157, 3, .getfield 33), (160, 3, .sipush 694), (163, 1, .iload_n 2), (164, 1, .iadd), (165, 1, .aload_n 0), (166, 3, .getfield 40), (169, 1, .iload_n 2), (170, 1, .iaload), (171, 1, .iastore), (172, 3, .iinc 2 1), (175, 3, .goto (-29)), (178, 1, .aload_n 0), (179, 3, .getfield 431), (182, 1, .ireturn)]
def xg_X13_sentence : zf_ft := [(434, 11, 42, .inl (0, 0)), (140, 11, 11, .inl (0, 0)), (419, 11, 40, .inl (0, 0)), (162, 11, 16, .inl (0, 0)), (33, 11, 6, .inl (0, 0)), (416, 11, 38, .inl (0, 0)), (40, 11, 8, .inl (0, 0)), (431, 11, 39, .inl (0, 0))]
def xp_X13_sentence : zf_ft := [(1, 11, 0, .inl ((-2147483648), 2147483647)), (159, 11, 15, .inl ((-2147483648), 2147483647)), (416, 11, 38, .inl ((-2147483648), 2147483647)), (431, 11, 39, .inl ((-2147483648), 2147483647)), (419, 11, 40, .inl ((-2147483648), 2147483647)), (425, 11, 41, .inl ((-2147483648), 2147483647)), (434, 11, 42, .inl (0, 1))]
def xv_X13_sentence : List (Nat × Nat × xe_F) := [(223, 2, fx_X13_taken), (171, 1, fx_X13_next), (437, 1, fx_X13_nots), (440, 2, fx_X13_joins), (168, 2, fx_X13_bad), (443, 1, fx_X13_behind), (446, 1, fx_X13_operand)]
def xt_X13_sentence : List (Nat × Nat × xe_F) := []
abbrev xr_X13_sentence := xe_run xGT xSC xRF 3 xg_X13_sentence xp_X13_sentence [] [] (xv_X13_sentence) xt_X13_sentence xi_X13_sentence
def fx_X13_sentence : xe_F := fun us hp v hp' => (us.map fun v => v.category).sum ≤ 3 ∧ xe_rt (some .int) v ∧ (∃ ar, us = ar ++ [.ref 18]) ∧ ∃ n, xr_X13_sentence n (0, xe_ag 0 us.reverse, [], hp) v hp'
theorem mk_X13_sentence  {hp hp' : xe_H} {v : Option Value} (hr : xe_rt (some .int) v) (h : ∃ n, xr_X13_sentence n (0, [(0, .ref 18)], [], hp) v hp') : fx_X13_sentence [.ref 18] hp v hp' := ⟨Nat.le_of_ble_eq_true rfl, hr, ⟨[], rfl⟩, h⟩
theorem hx_X13_sentence : ∀ us hp v hp', fx_X13_sentence us hp v hp' → (us.map fun v => v.category).sum ≤ 3 ∧ xe_rt (some .int) v ∧ ∃ n, xr_X13_sentence n (0, xe_ag 0 us.reverse, [], hp) v hp' := fun us hp v hp' h => ⟨h.1, h.2.1, h.2.2.2⟩
theorem fr_X13_sentence : ∀ us hp v hp', fx_X13_sentence us hp v hp' → ∃ ar, us = ar ++ [.ref 18] := fun us hp v hp' h => h.2.2.1
set_option maxRecDepth 100000 in
set_option maxHeartbeats 4000000 in
theorem kx_X13_sentence (l : Launch) (D : va_G) (k : Nat → ClassId) (B0 : Nat) (ad : Nat → Nat) (al sw : Nat) : xe_Con l yX13_sentence (zw yX13_sentence cX13_sentence 3 (some .int)) ({ frames := 3, cells := 0, slots := 0, locals := 69 }) D k ad (zEx B0 ad al sw) xGT xSC xRF (fx_X13_sentence) := by
  have hEx := zEx_ok B0 ad al sw
  refine xe_mk (cc := cX13_sentence) (nL := 3) (ret := (some .int)) (fg := xg_X13_sentence) (fp := xp_X13_sentence) (sg := []) (lc := []) (cv := xv_X13_sentence) (cs := xt_X13_sentence) (ins := xi_X13_sentence) (by decide) rfl hEx (by decide +kernel) hx_X13_sentence ?_
  intro p e s m args below meth c Q Sg w0 A θ S hK hE hAB hA hth
  refine ⟨?_, ?_, ?_, ?_, ?_, ?_⟩
  · exact zf_ac ((fun H locs ws a q0 fs v rest pc ls hP he hv hdg kk => va_get (D := D) (ci := 11) (C := RX13) (T := TX13) (N := 47) (own := RX13) S.1 S.2.1 S.2.2.2.2 (zg_in inW_X13) S.2.2.2.1 hK hP q0 he rfl 42 (by decide) (S.2.2.2.2 (.fieldLink RX13 434 "RungMoneyModel" "isWhole" "Z") (List.mem_cons_of_mem _ zw_1390)) (fun _ h9 => h9) hv hdg kk)) (zf_ac ((fun H locs ws a q0 fs v rest pc ls hP he hv hdg kk => va_get (D := D) (ci := 11) (C := RX13) (T := TX13) (N := 47) (own := RX13) S.1 S.2.1 S.2.2.2.2 (zg_in inW_X13) S.2.2.2.1 hK hP q0 he rfl 11 (by decide) (S.2.2.2.2 (.fieldLink RX13 140 "RungMoneyModel" "token" "I") (List.mem_cons_of_mem _ zw_1359)) (fun _ h9 => h9) hv hdg kk)) (zf_ac ((fun H locs ws a q0 fs v rest pc ls hP he hv hdg kk => va_get (D := D) (ci := 11) (C := RX13) (T := TX13) (N := 47) (own := RX13) S.1 S.2.1 S.2.2.2.2 (zg_in inW_X13) S.2.2.2.1 hK hP q0 he rfl 40 (by decide) (S.2.2.2.2 (.fieldLink RX13 419 "RungMoneyModel" "top" "I") (List.mem_cons_of_mem _ zw_1388)) (fun _ h9 => h9) hv hdg kk)) (zf_ac ((fun H locs ws a q0 fs v rest pc ls hP he hv hdg kk => va_get (D := D) (ci := 11) (C := RX13) (T := TX13) (N := 47) (own := RX13) S.1 S.2.1 S.2.2.2.2 (zg_in inW_X13) S.2.2.2.1 hK hP q0 he rfl 16 (by decide) (S.2.2.2.2 (.fieldLink RX13 162 "RungMoneyModel" "faultAt" "I") (List.mem_cons_of_mem _ zw_1364)) (fun _ h9 => h9) hv hdg kk)) (zf_ac ((fun H locs ws a q0 fs v rest pc ls hP he hv hdg kk => va_get (D := D) (ci := 11) (C := RX13) (T := TX13) (N := 47) (own := RX13) S.1 S.2.1 S.2.2.2.2 (zg_in inW_X13) S.2.2.2.1 hK hP q0 he rfl 6 (by decide) (S.2.2.2.2 (.fieldLink RX13 33 "RungMoneyModel" "s" "[I") (List.mem_cons_of_mem _ zw_1354)) (fun _ h9 => h9) hv hdg kk)) (zf_ac ((fun H locs ws a q0 fs v rest pc ls hP he hv hdg kk => va_get (D := D) (ci := 11) (C := RX13) (T := TX13) (N := 47) (own := RX13) S.1 S.2.1 S.2.2.2.2 (zg_in inW_X13) S.2.2.2.1 hK hP q0 he rfl 38 (by decide) (S.2.2.2.2 (.fieldLink RX13 416 "RungMoneyModel" "codes" "I") (List.mem_cons_of_mem _ zw_1386)) (fun _ h9 => h9) hv hdg kk)) (zf_ac ((fun H locs ws a q0 fs v rest pc ls hP he hv hdg kk => va_get (D := D) (ci := 11) (C := RX13) (T := TX13) (N := 47) (own := RX13) S.1 S.2.1 S.2.2.2.2 (zg_in inW_X13) S.2.2.2.1 hK hP q0 he rfl 8 (by decide) (S.2.2.2.2 (.fieldLink RX13 40 "RungMoneyModel" "read" "[I") (List.mem_cons_of_mem _ zw_1356)) (fun _ h9 => h9) hv hdg kk)) (zf_ac ((fun H locs ws a q0 fs v rest pc ls hP he hv hdg kk => va_get (D := D) (ci := 11) (C := RX13) (T := TX13) (N := 47) (own := RX13) S.1 S.2.1 S.2.2.2.2 (zg_in inW_X13) S.2.2.2.1 hK hP q0 he rfl 39 (by decide) (S.2.2.2.2 (.fieldLink RX13 431 "RungMoneyModel" "ones" "I") (List.mem_cons_of_mem _ zw_1387)) (fun _ h9 => h9) hv hdg kk)) zf_an)))))))
  · exact zf_ac ((fun H locs ws a q0 fs v rest pc ls hP hD hS he hl hv hdg kk => by obtain ⟨x, rfl, h1, h2⟩ := hv; exact va_put (D := D) (ci := 11) (v := .int x) (ty := .int) (C := RX13) (T := TX13) (N := 47) (own := RX13) S.1 S.2.1 S.2.2.2.2 (zg_in inW_X13) tyX13 tyX13_ok nmX13 S.2.2.2.1 hK hP hD hS q0 he rfl 0 (by decide) (S.2.2.2.2 (.fieldLink RX13 1 "RungMoneyModel" "thrown" "I") (List.mem_cons_of_mem _ zw_1348)) (fun _ h9 => h9) rfl (by decide +kernel) rfl rfl hl hdg kk)) (zf_ac ((fun H locs ws a q0 fs v rest pc ls hP hD hS he hl hv hdg kk => by obtain ⟨x, rfl, h1, h2⟩ := hv; exact va_put (D := D) (ci := 11) (v := .int x) (ty := .int) (C := RX13) (T := TX13) (N := 47) (own := RX13) S.1 S.2.1 S.2.2.2.2 (zg_in inW_X13) tyX13 tyX13_ok nmX13 S.2.2.2.1 hK hP hD hS q0 he rfl 15 (by decide) (S.2.2.2.2 (.fieldLink RX13 159 "RungMoneyModel" "fault" "I") (List.mem_cons_of_mem _ zw_1363)) (fun _ h9 => h9) rfl (by decide +kernel) rfl rfl hl hdg kk)) (zf_ac ((fun H locs ws a q0 fs v rest pc ls hP hD hS he hl hv hdg kk => by obtain ⟨x, rfl, h1, h2⟩ := hv; exact va_put (D := D) (ci := 11) (v := .int x) (ty := .int) (C := RX13) (T := TX13) (N := 47) (own := RX13) S.1 S.2.1 S.2.2.2.2 (zg_in inW_X13) tyX13 tyX13_ok nmX13 S.2.2.2.1 hK hP hD hS q0 he rfl 38 (by decide) (S.2.2.2.2 (.fieldLink RX13 416 "RungMoneyModel" "codes" "I") (List.mem_cons_of_mem _ zw_1386)) (fun _ h9 => h9) rfl (by decide +kernel) rfl rfl hl hdg kk)) (zf_ac ((fun H locs ws a q0 fs v rest pc ls hP hD hS he hl hv hdg kk => by obtain ⟨x, rfl, h1, h2⟩ := hv; exact va_put (D := D) (ci := 11) (v := .int x) (ty := .int) (C := RX13) (T := TX13) (N := 47) (own := RX13) S.1 S.2.1 S.2.2.2.2 (zg_in inW_X13) tyX13 tyX13_ok nmX13 S.2.2.2.1 hK hP hD hS q0 he rfl 39 (by decide) (S.2.2.2.2 (.fieldLink RX13 431 "RungMoneyModel" "ones" "I") (List.mem_cons_of_mem _ zw_1387)) (fun _ h9 => h9) rfl (by decide +kernel) rfl rfl hl hdg kk)) (zf_ac ((fun H locs ws a q0 fs v rest pc ls hP hD hS he hl hv hdg kk => by obtain ⟨x, rfl, h1, h2⟩ := hv; exact va_put (D := D) (ci := 11) (v := .int x) (ty := .int) (C := RX13) (T := TX13) (N := 47) (own := RX13) S.1 S.2.1 S.2.2.2.2 (zg_in inW_X13) tyX13 tyX13_ok nmX13 S.2.2.2.1 hK hP hD hS q0 he rfl 40 (by decide) (S.2.2.2.2 (.fieldLink RX13 419 "RungMoneyModel" "top" "I") (List.mem_cons_of_mem _ zw_1388)) (fun _ h9 => h9) rfl (by decide +kernel) rfl rfl hl hdg kk)) (zf_ac ((fun H locs ws a q0 fs v rest pc ls hP hD hS he hl hv hdg kk => by obtain ⟨x, rfl, h1, h2⟩ := hv; exact va_put (D := D) (ci := 11) (v := .int x) (ty := .int) (C := RX13) (T := TX13) (N := 47) (own := RX13) S.1 S.2.1 S.2.2.2.2 (zg_in inW_X13) tyX13 tyX13_ok nmX13 S.2.2.2.1 hK hP hD hS q0 he rfl 41 (by decide) (S.2.2.2.2 (.fieldLink RX13 425 "RungMoneyModel" "deep" "I") (List.mem_cons_of_mem _ zw_1389)) (fun _ h9 => h9) rfl (by decide +kernel) rfl rfl hl hdg kk)) (zf_ac ((fun H locs ws a q0 fs v rest pc ls hP hD hS he hl hv hdg kk => by obtain ⟨x, rfl, h1, h2⟩ := hv; rcases zf_01 h1 h2 with rfl | rfl <;> exact va_put (D := D) (ci := 11) (v := .int _) (ty := .boolean) (C := RX13) (T := TX13) (N := 47) (own := RX13) S.1 S.2.1 S.2.2.2.2 (zg_in inW_X13) tyX13 tyX13_ok nmX13 S.2.2.2.1 hK hP hD hS q0 he rfl 42 (by decide) (S.2.2.2.2 (.fieldLink RX13 434 "RungMoneyModel" "isWhole" "Z") (List.mem_cons_of_mem _ zw_1390)) (fun _ h9 => h9) rfl (by decide +kernel) rfl rfl hl hdg kk)) zf_an))))))
  · exact xe_n2
  · exact xe_n3
  · exact xe_a4 (xe_crV S hEx hE hAB hA hK hth (kx_X13_taken l D k B0 ad al sw) (cwV 1 S.2.2.2.2 (zg_V zw_1495 zw_1497 zw_26 zw_109 zw_1498) rfl rfl rfl (by decide +kernel) ⟨(Nat.le_of_ble_eq_true rfl), (Nat.le_of_ble_eq_true rfl)⟩) ⟨(Nat.le_of_ble_eq_true rfl), (Nat.le_of_ble_eq_true rfl)⟩ 11 rfl rfl 18 (by decide +kernel) fr_X13_taken) (xe_a4 (xe_crV S hEx hE hAB hA hK hth (kx_X13_next l D k B0 ad al sw) (cwV 0 S.2.2.2.2 (zg_V zw_1499 zw_1501 zw_27 zw_109 zw_1502) rfl rfl rfl (by decide +kernel) ⟨(Nat.le_of_ble_eq_true rfl), (Nat.le_of_ble_eq_true rfl)⟩) ⟨(Nat.le_of_ble_eq_true rfl), (Nat.le_of_ble_eq_true rfl)⟩ 11 rfl rfl 18 (by decide +kernel) fr_X13_next) (xe_a4 (xe_crV S hEx hE hAB hA hK hth (kx_X13_nots l D k B0 ad al sw) (cwV 0 S.2.2.2.2 (zg_V zw_1909 zw_1911 zw_86 zw_109 zw_1912) rfl rfl rfl (by decide +kernel) ⟨(Nat.le_of_ble_eq_true rfl), (Nat.le_of_ble_eq_true rfl)⟩) ⟨(Nat.le_of_ble_eq_true rfl), (Nat.le_of_ble_eq_true rfl)⟩ 11 rfl rfl 18 (by decide +kernel) fr_X13_nots) (xe_a4 (xe_crV S hEx hE hAB hA hK hth (kx_X13_joins l D k B0 ad al sw) (cwV 1 S.2.2.2.2 (zg_V zw_1917 zw_1919 zw_88 zw_109 zw_1920) rfl rfl rfl (by decide +kernel) ⟨(Nat.le_of_ble_eq_true rfl), (Nat.le_of_ble_eq_true rfl)⟩) ⟨(Nat.le_of_ble_eq_true rfl), (Nat.le_of_ble_eq_true rfl)⟩ 11 rfl rfl 18 (by decide +kernel) fr_X13_joins) (xe_a4 (xe_crV S hEx hE hAB hA hK hth (kx_X13_bad l D k B0 ad al sw) (cwV 1 S.2.2.2.2 (zg_V zw_1522 zw_1524 zw_31 zw_109 zw_1525) rfl rfl rfl (by decide +kernel) ⟨(Nat.le_of_ble_eq_true rfl), (Nat.le_of_ble_eq_true rfl)⟩) ⟨(Nat.le_of_ble_eq_true rfl), (Nat.le_of_ble_eq_true rfl)⟩ 11 rfl rfl 18 (by decide +kernel) fr_X13_bad) (xe_a4 (xe_crV S hEx hE hAB hA hK hth (kx_X13_behind l D k B0 ad al sw) (cwV 0 S.2.2.2.2 (zg_V zw_1921 zw_1923 zw_89 zw_109 zw_1924) rfl rfl rfl (by decide +kernel) ⟨(Nat.le_of_ble_eq_true rfl), (Nat.le_of_ble_eq_true rfl)⟩) ⟨(Nat.le_of_ble_eq_true rfl), (Nat.le_of_ble_eq_true rfl)⟩ 11 rfl rfl 18 (by decide +kernel) fr_X13_behind) (xe_a4 (xe_crV S hEx hE hAB hA hK hth (kx_X13_operand l D k B0 ad al sw) (cwV 0 S.2.2.2.2 (zg_V zw_1925 zw_1927 zw_90 zw_109 zw_1928) rfl rfl rfl (by decide +kernel) ⟨(Nat.le_of_ble_eq_true rfl), (Nat.le_of_ble_eq_true rfl)⟩) ⟨(Nat.le_of_ble_eq_true rfl), (Nat.le_of_ble_eq_true rfl)⟩ 11 rfl rfl 18 (by decide +kernel) fr_X13_operand) xe_n4))))))
  · exact xe_n4
set_option maxRecDepth 100000 in
theorem pt_X13_sentence_0 {I I1 I2 : Nat → Nat → Int32} {L L1 L2 : Nat → Nat → Int64} (c1 : fx_X13_taken [.int (200 : Int32), .ref 18] ((xu I 18 0 (0 : Int32)), L) none (I1, L1)) (c2 : fx_X13_next [.ref 18] ((xu (xu (xu (xu (xu (xu I1 18 15 (0 : Int32)) 18 38 (0 : Int32)) 18 39 (0 : Int32)) 18 40 (0 : Int32)) 18 41 (1 : Int32)) 18 42 (0 : Int32)), L1) none (I2, L2)) {v9 : Option Value} {hp9 : xe_H} (r9 : ∃ n, xr_X13_sentence n (48, [(0, .ref 18), (1, .int (1 : Int32))], [], (I2, L2)) v9 hp9) : ∃ n, xr_X13_sentence n (0, [(0, .ref 18)], [], (I, L)) v9 hp9 := by
  refine xe_go 4 (s' := (9, [(0, .ref 18)], [.int (200 : Int32), .ref 18], ((xu I 18 0 (0 : Int32)), L))) rfl ?_
  refine xe_vir (n := 2) (f := fx_X13_taken) rfl (Nat.le_of_ble_eq_true rfl) (List.mem_of_getElem? (i := 0) rfl) (Nat.le_of_ble_eq_true rfl) c1 ?_
  refine xe_go 18 (s' := (43, [(0, .ref 18)], [.ref 18], ((xu (xu (xu (xu (xu (xu I1 18 15 (0 : Int32)) 18 38 (0 : Int32)) 18 39 (0 : Int32)) 18 40 (0 : Int32)) 18 41 (1 : Int32)) 18 42 (0 : Int32)), L1))) rfl ?_
  refine xe_vir (n := 1) (f := fx_X13_next) rfl (Nat.le_of_ble_eq_true rfl) (List.mem_of_getElem? (i := 1) rfl) (Nat.le_of_ble_eq_true rfl) c2 ?_
  refine xe_go 1 (s' := (48, [(0, .ref 18), (1, .int (1 : Int32))], [], (I2, L2))) rfl ?_
  exact xe_nrm [0, 1] rfl r9
set_option maxRecDepth 100000 in
theorem pt_X13_sentence_1 {l1 : Int32} {I : Nat → Nat → Int32} {L : Nat → Nat → Int64} (h1 : (xe_cmp .eq l1 0) = true) {v9 : Option Value} {hp9 : xe_H} (r9 : ∃ n, xr_X13_sentence n (146, [(0, .ref 18), (1, .int l1), (2, .int (0 : Int32))], [], ((xu I 20 693 (I 18 38)), L)) v9 hp9) : ∃ n, xr_X13_sentence n (48, [(0, .ref 18), (1, .int l1)], [], (I, L)) v9 hp9 := by
  refine xe_bT 1 (A := (132, [(0, .ref 18), (1, .int l1)], [], (I, L))) (B := (52, [(0, .ref 18), (1, .int l1)], [], (I, L))) h1 rfl ?_
  refine xe_go 7 (s' := (146, [(0, .ref 18), (1, .int l1), (2, .int (0 : Int32))], [], ((xu I 20 693 (I 18 38)), L))) rfl ?_
  exact xe_nrm [0, 1, 2] rfl r9
set_option maxRecDepth 100000 in
theorem pt_X13_sentence_2 {l1 : Int32} {I I1 : Nat → Nat → Int32} {L L1 : Nat → Nat → Int64} (h1 : (xe_cmp .eq l1 0) = false) (h2 : (xe_cmp .eq (I 18 42) 0) = true) (h3 : (xe_cmp .eq (I 18 42) 0) = true) (c1 : fx_X13_operand [.ref 18] (I, L) (some (.int 1)) (I1, L1)) {v9 : Option Value} {hp9 : xe_H} (r9 : ∃ n, xr_X13_sentence n (48, [(0, .ref 18), (1, .int l1)], [], (I1, L1)) v9 hp9) : ∃ n, xr_X13_sentence n (48, [(0, .ref 18), (1, .int l1)], [], (I, L)) v9 hp9 := by
  refine xe_bF 1 (A := (132, [(0, .ref 18), (1, .int l1)], [], (I, L))) (B := (52, [(0, .ref 18), (1, .int l1)], [], (I, L))) h1 rfl ?_
  refine xe_bT 2 (A := (101, [(0, .ref 18), (1, .int l1)], [], (I, L))) (B := (59, [(0, .ref 18), (1, .int l1)], [], (I, L))) h2 rfl ?_
  refine xe_bT 2 (A := (118, [(0, .ref 18), (1, .int l1)], [], (I, L))) (B := (108, [(0, .ref 18), (1, .int l1)], [], (I, L))) h3 rfl ?_
  refine xe_go 0 (s' := (119, [(0, .ref 18), (1, .int l1)], [.ref 18], (I, L))) rfl ?_
  refine xe_vir (n := 1) (f := fx_X13_operand) rfl (Nat.le_of_ble_eq_true rfl) (List.mem_of_getElem? (i := 6) rfl) (Nat.le_of_ble_eq_true rfl) c1 ?_
  refine xe_go 0 (s' := (48, [(0, .ref 18), (1, .int l1)], [], (I1, L1))) rfl ?_
  exact xe_nrm [0, 1] rfl r9
set_option maxRecDepth 100000 in
theorem pt_X13_sentence_3 {l1 : Int32} {I I1 : Nat → Nat → Int32} {L L1 : Nat → Nat → Int64} (h1 : (xe_cmp .eq l1 0) = false) (h2 : (xe_cmp .eq (I 18 42) 0) = true) (h3 : (xe_cmp .eq (I 18 42) 0) = true) (c1 : fx_X13_operand [.ref 18] (I, L) (some (.int 0)) (I1, L1)) : ∃ n, xr_X13_sentence n (48, [(0, .ref 18), (1, .int l1)], [], (I, L)) (some (.int ((Int32.ofInt (-1)) - (I1 18 16)))) (I1, L1) := by
  refine xe_bF 1 (A := (132, [(0, .ref 18), (1, .int l1)], [], (I, L))) (B := (52, [(0, .ref 18), (1, .int l1)], [], (I, L))) h1 rfl ?_
  refine xe_bT 2 (A := (101, [(0, .ref 18), (1, .int l1)], [], (I, L))) (B := (59, [(0, .ref 18), (1, .int l1)], [], (I, L))) h2 rfl ?_
  refine xe_bT 2 (A := (118, [(0, .ref 18), (1, .int l1)], [], (I, L))) (B := (108, [(0, .ref 18), (1, .int l1)], [], (I, L))) h3 rfl ?_
  refine xe_go 0 (s' := (119, [(0, .ref 18), (1, .int l1)], [.ref 18], (I, L))) rfl ?_
  refine xe_vir (n := 1) (f := fx_X13_operand) rfl (Nat.le_of_ble_eq_true rfl) (List.mem_of_getElem? (i := 6) rfl) (Nat.le_of_ble_eq_true rfl) c1 ?_
  refine xe_go 4 (s' := (131, [(0, .ref 18), (1, .int l1)], [.int ((Int32.ofInt (-1)) - (I1 18 16))], (I1, L1))) rfl ?_
  exact xe_end rfl rfl rfl
set_option maxRecDepth 100000 in
theorem pt_X13_sentence_4 {l1 : Int32} {I I1 : Nat → Nat → Int32} {L L1 : Nat → Nat → Int64} (h1 : (xe_cmp .eq l1 0) = false) (h2 : (xe_cmp .eq (I 18 42) 0) = true) (h3 : (xe_cmp .eq (I 18 42) 0) = false) (c1 : fx_X13_behind [.ref 18] (I, L) (some (.int 1)) (I1, L1)) {v9 : Option Value} {hp9 : xe_H} (r9 : ∃ n, xr_X13_sentence n (48, [(0, .ref 18), (1, .int l1)], [], (I1, L1)) v9 hp9) : ∃ n, xr_X13_sentence n (48, [(0, .ref 18), (1, .int l1)], [], (I, L)) v9 hp9 := by
  refine xe_bF 1 (A := (132, [(0, .ref 18), (1, .int l1)], [], (I, L))) (B := (52, [(0, .ref 18), (1, .int l1)], [], (I, L))) h1 rfl ?_
  refine xe_bT 2 (A := (101, [(0, .ref 18), (1, .int l1)], [], (I, L))) (B := (59, [(0, .ref 18), (1, .int l1)], [], (I, L))) h2 rfl ?_
  refine xe_bF 2 (A := (118, [(0, .ref 18), (1, .int l1)], [], (I, L))) (B := (108, [(0, .ref 18), (1, .int l1)], [], (I, L))) h3 rfl ?_
  refine xe_go 0 (s' := (109, [(0, .ref 18), (1, .int l1)], [.ref 18], (I, L))) rfl ?_
  refine xe_vir (n := 1) (f := fx_X13_behind) rfl (Nat.le_of_ble_eq_true rfl) (List.mem_of_getElem? (i := 5) rfl) (Nat.le_of_ble_eq_true rfl) c1 ?_
  refine xe_go 0 (s' := (48, [(0, .ref 18), (1, .int l1)], [], (I1, L1))) rfl ?_
  exact xe_nrm [0, 1] rfl r9
set_option maxRecDepth 100000 in
theorem pt_X13_sentence_5 {l1 : Int32} {I I1 : Nat → Nat → Int32} {L L1 : Nat → Nat → Int64} (h1 : (xe_cmp .eq l1 0) = false) (h2 : (xe_cmp .eq (I 18 42) 0) = true) (h3 : (xe_cmp .eq (I 18 42) 0) = false) (c1 : fx_X13_behind [.ref 18] (I, L) (some (.int 0)) (I1, L1)) : ∃ n, xr_X13_sentence n (48, [(0, .ref 18), (1, .int l1)], [], (I, L)) (some (.int ((Int32.ofInt (-1)) - (I1 18 16)))) (I1, L1) := by
  refine xe_bF 1 (A := (132, [(0, .ref 18), (1, .int l1)], [], (I, L))) (B := (52, [(0, .ref 18), (1, .int l1)], [], (I, L))) h1 rfl ?_
  refine xe_bT 2 (A := (101, [(0, .ref 18), (1, .int l1)], [], (I, L))) (B := (59, [(0, .ref 18), (1, .int l1)], [], (I, L))) h2 rfl ?_
  refine xe_bF 2 (A := (118, [(0, .ref 18), (1, .int l1)], [], (I, L))) (B := (108, [(0, .ref 18), (1, .int l1)], [], (I, L))) h3 rfl ?_
  refine xe_go 0 (s' := (109, [(0, .ref 18), (1, .int l1)], [.ref 18], (I, L))) rfl ?_
  refine xe_vir (n := 1) (f := fx_X13_behind) rfl (Nat.le_of_ble_eq_true rfl) (List.mem_of_getElem? (i := 5) rfl) (Nat.le_of_ble_eq_true rfl) c1 ?_
  refine xe_go 5 (s' := (131, [(0, .ref 18), (1, .int l1)], [.int ((Int32.ofInt (-1)) - (I1 18 16))], (I1, L1))) rfl ?_
  exact xe_end rfl rfl rfl
set_option maxRecDepth 100000 in
theorem pt_X13_sentence_6 {l1 : Int32} {I I1 : Nat → Nat → Int32} {L L1 : Nat → Nat → Int64} (h1 : (xe_cmp .eq l1 0) = false) (h2 : (xe_cmp .eq (I 18 42) 0) = false) (h3 : (xe_cmp .ne (I 18 11) 0) = true) (h4 : (xe_cmp .eq (I 18 42) 0) = true) (c1 : fx_X13_operand [.ref 18] (I, L) (some (.int 1)) (I1, L1)) {v9 : Option Value} {hp9 : xe_H} (r9 : ∃ n, xr_X13_sentence n (48, [(0, .ref 18), (1, .int l1)], [], (I1, L1)) v9 hp9) : ∃ n, xr_X13_sentence n (48, [(0, .ref 18), (1, .int l1)], [], (I, L)) v9 hp9 := by
  refine xe_bF 1 (A := (132, [(0, .ref 18), (1, .int l1)], [], (I, L))) (B := (52, [(0, .ref 18), (1, .int l1)], [], (I, L))) h1 rfl ?_
  refine xe_bF 2 (A := (101, [(0, .ref 18), (1, .int l1)], [], (I, L))) (B := (59, [(0, .ref 18), (1, .int l1)], [], (I, L))) h2 rfl ?_
  refine xe_bT 2 (A := (101, [(0, .ref 18), (1, .int l1)], [], (I, L))) (B := (66, [(0, .ref 18), (1, .int l1)], [], (I, L))) h3 rfl ?_
  refine xe_bT 2 (A := (118, [(0, .ref 18), (1, .int l1)], [], (I, L))) (B := (108, [(0, .ref 18), (1, .int l1)], [], (I, L))) h4 rfl ?_
  refine xe_go 0 (s' := (119, [(0, .ref 18), (1, .int l1)], [.ref 18], (I, L))) rfl ?_
  refine xe_vir (n := 1) (f := fx_X13_operand) rfl (Nat.le_of_ble_eq_true rfl) (List.mem_of_getElem? (i := 6) rfl) (Nat.le_of_ble_eq_true rfl) c1 ?_
  refine xe_go 0 (s' := (48, [(0, .ref 18), (1, .int l1)], [], (I1, L1))) rfl ?_
  exact xe_nrm [0, 1] rfl r9
set_option maxRecDepth 100000 in
theorem pt_X13_sentence_7 {l1 : Int32} {I I1 : Nat → Nat → Int32} {L L1 : Nat → Nat → Int64} (h1 : (xe_cmp .eq l1 0) = false) (h2 : (xe_cmp .eq (I 18 42) 0) = false) (h3 : (xe_cmp .ne (I 18 11) 0) = true) (h4 : (xe_cmp .eq (I 18 42) 0) = true) (c1 : fx_X13_operand [.ref 18] (I, L) (some (.int 0)) (I1, L1)) : ∃ n, xr_X13_sentence n (48, [(0, .ref 18), (1, .int l1)], [], (I, L)) (some (.int ((Int32.ofInt (-1)) - (I1 18 16)))) (I1, L1) := by
  refine xe_bF 1 (A := (132, [(0, .ref 18), (1, .int l1)], [], (I, L))) (B := (52, [(0, .ref 18), (1, .int l1)], [], (I, L))) h1 rfl ?_
  refine xe_bF 2 (A := (101, [(0, .ref 18), (1, .int l1)], [], (I, L))) (B := (59, [(0, .ref 18), (1, .int l1)], [], (I, L))) h2 rfl ?_
  refine xe_bT 2 (A := (101, [(0, .ref 18), (1, .int l1)], [], (I, L))) (B := (66, [(0, .ref 18), (1, .int l1)], [], (I, L))) h3 rfl ?_
  refine xe_bT 2 (A := (118, [(0, .ref 18), (1, .int l1)], [], (I, L))) (B := (108, [(0, .ref 18), (1, .int l1)], [], (I, L))) h4 rfl ?_
  refine xe_go 0 (s' := (119, [(0, .ref 18), (1, .int l1)], [.ref 18], (I, L))) rfl ?_
  refine xe_vir (n := 1) (f := fx_X13_operand) rfl (Nat.le_of_ble_eq_true rfl) (List.mem_of_getElem? (i := 6) rfl) (Nat.le_of_ble_eq_true rfl) c1 ?_
  refine xe_go 4 (s' := (131, [(0, .ref 18), (1, .int l1)], [.int ((Int32.ofInt (-1)) - (I1 18 16))], (I1, L1))) rfl ?_
  exact xe_end rfl rfl rfl
set_option maxRecDepth 100000 in
theorem pt_X13_sentence_8 {l1 : Int32} {I I1 : Nat → Nat → Int32} {L L1 : Nat → Nat → Int64} (h1 : (xe_cmp .eq l1 0) = false) (h2 : (xe_cmp .eq (I 18 42) 0) = false) (h3 : (xe_cmp .ne (I 18 11) 0) = true) (h4 : (xe_cmp .eq (I 18 42) 0) = false) (c1 : fx_X13_behind [.ref 18] (I, L) (some (.int 1)) (I1, L1)) {v9 : Option Value} {hp9 : xe_H} (r9 : ∃ n, xr_X13_sentence n (48, [(0, .ref 18), (1, .int l1)], [], (I1, L1)) v9 hp9) : ∃ n, xr_X13_sentence n (48, [(0, .ref 18), (1, .int l1)], [], (I, L)) v9 hp9 := by
  refine xe_bF 1 (A := (132, [(0, .ref 18), (1, .int l1)], [], (I, L))) (B := (52, [(0, .ref 18), (1, .int l1)], [], (I, L))) h1 rfl ?_
  refine xe_bF 2 (A := (101, [(0, .ref 18), (1, .int l1)], [], (I, L))) (B := (59, [(0, .ref 18), (1, .int l1)], [], (I, L))) h2 rfl ?_
  refine xe_bT 2 (A := (101, [(0, .ref 18), (1, .int l1)], [], (I, L))) (B := (66, [(0, .ref 18), (1, .int l1)], [], (I, L))) h3 rfl ?_
  refine xe_bF 2 (A := (118, [(0, .ref 18), (1, .int l1)], [], (I, L))) (B := (108, [(0, .ref 18), (1, .int l1)], [], (I, L))) h4 rfl ?_
  refine xe_go 0 (s' := (109, [(0, .ref 18), (1, .int l1)], [.ref 18], (I, L))) rfl ?_
  refine xe_vir (n := 1) (f := fx_X13_behind) rfl (Nat.le_of_ble_eq_true rfl) (List.mem_of_getElem? (i := 5) rfl) (Nat.le_of_ble_eq_true rfl) c1 ?_
  refine xe_go 0 (s' := (48, [(0, .ref 18), (1, .int l1)], [], (I1, L1))) rfl ?_
  exact xe_nrm [0, 1] rfl r9
set_option maxRecDepth 100000 in
theorem pt_X13_sentence_9 {l1 : Int32} {I I1 : Nat → Nat → Int32} {L L1 : Nat → Nat → Int64} (h1 : (xe_cmp .eq l1 0) = false) (h2 : (xe_cmp .eq (I 18 42) 0) = false) (h3 : (xe_cmp .ne (I 18 11) 0) = true) (h4 : (xe_cmp .eq (I 18 42) 0) = false) (c1 : fx_X13_behind [.ref 18] (I, L) (some (.int 0)) (I1, L1)) : ∃ n, xr_X13_sentence n (48, [(0, .ref 18), (1, .int l1)], [], (I, L)) (some (.int ((Int32.ofInt (-1)) - (I1 18 16)))) (I1, L1) := by
  refine xe_bF 1 (A := (132, [(0, .ref 18), (1, .int l1)], [], (I, L))) (B := (52, [(0, .ref 18), (1, .int l1)], [], (I, L))) h1 rfl ?_
  refine xe_bF 2 (A := (101, [(0, .ref 18), (1, .int l1)], [], (I, L))) (B := (59, [(0, .ref 18), (1, .int l1)], [], (I, L))) h2 rfl ?_
  refine xe_bT 2 (A := (101, [(0, .ref 18), (1, .int l1)], [], (I, L))) (B := (66, [(0, .ref 18), (1, .int l1)], [], (I, L))) h3 rfl ?_
  refine xe_bF 2 (A := (118, [(0, .ref 18), (1, .int l1)], [], (I, L))) (B := (108, [(0, .ref 18), (1, .int l1)], [], (I, L))) h4 rfl ?_
  refine xe_go 0 (s' := (109, [(0, .ref 18), (1, .int l1)], [.ref 18], (I, L))) rfl ?_
  refine xe_vir (n := 1) (f := fx_X13_behind) rfl (Nat.le_of_ble_eq_true rfl) (List.mem_of_getElem? (i := 5) rfl) (Nat.le_of_ble_eq_true rfl) c1 ?_
  refine xe_go 5 (s' := (131, [(0, .ref 18), (1, .int l1)], [.int ((Int32.ofInt (-1)) - (I1 18 16))], (I1, L1))) rfl ?_
  exact xe_end rfl rfl rfl
set_option maxRecDepth 100000 in
theorem pt_X13_sentence_10 {l1 : Int32} {I I1 I2 : Nat → Nat → Int32} {L L1 L2 : Nat → Nat → Int64} (h1 : (xe_cmp .eq l1 0) = false) (h2 : (xe_cmp .eq (I 18 42) 0) = false) (h3 : (xe_cmp .ne (I 18 11) 0) = false) (c1 : fx_X13_nots [.ref 18] (I, L) none (I1, L1)) (c2 : fx_X13_joins [.int (22 : Int32), .ref 18] (I1, L1) none (I2, L2)) (h4 : (xe_cmp .le (I2 18 40) 0) = true) {v9 : Option Value} {hp9 : xe_H} (r9 : ∃ n, xr_X13_sentence n (48, [(0, .ref 18), (1, .int (0 : Int32))], [], (I2, L2)) v9 hp9) : ∃ n, xr_X13_sentence n (48, [(0, .ref 18), (1, .int l1)], [], (I, L)) v9 hp9 := by
  refine xe_bF 1 (A := (132, [(0, .ref 18), (1, .int l1)], [], (I, L))) (B := (52, [(0, .ref 18), (1, .int l1)], [], (I, L))) h1 rfl ?_
  refine xe_bF 2 (A := (101, [(0, .ref 18), (1, .int l1)], [], (I, L))) (B := (59, [(0, .ref 18), (1, .int l1)], [], (I, L))) h2 rfl ?_
  refine xe_bF 2 (A := (101, [(0, .ref 18), (1, .int l1)], [], (I, L))) (B := (66, [(0, .ref 18), (1, .int l1)], [], (I, L))) h3 rfl ?_
  refine xe_go 0 (s' := (67, [(0, .ref 18), (1, .int l1)], [.ref 18], (I, L))) rfl ?_
  refine xe_vir (n := 1) (f := fx_X13_nots) rfl (Nat.le_of_ble_eq_true rfl) (List.mem_of_getElem? (i := 2) rfl) (Nat.le_of_ble_eq_true rfl) c1 ?_
  refine xe_go 1 (s' := (73, [(0, .ref 18), (1, .int l1)], [.int (22 : Int32), .ref 18], (I1, L1))) rfl ?_
  refine xe_vir (n := 2) (f := fx_X13_joins) rfl (Nat.le_of_ble_eq_true rfl) (List.mem_of_getElem? (i := 3) rfl) (Nat.le_of_ble_eq_true rfl) c2 ?_
  refine xe_bT 2 (A := (96, [(0, .ref 18), (1, .int l1)], [], (I2, L2))) (B := (83, [(0, .ref 18), (1, .int l1)], [], (I2, L2))) h4 rfl ?_
  refine xe_go 2 (s' := (48, [(0, .ref 18), (1, .int (0 : Int32))], [], (I2, L2))) rfl ?_
  exact xe_nrm [0, 1] rfl r9
set_option maxRecDepth 100000 in
theorem pt_X13_sentence_11 {l1 : Int32} {I I1 I2 I3 : Nat → Nat → Int32} {L L1 L2 L3 : Nat → Nat → Int64} (h1 : (xe_cmp .eq l1 0) = false) (h2 : (xe_cmp .eq (I 18 42) 0) = false) (h3 : (xe_cmp .ne (I 18 11) 0) = false) (c1 : fx_X13_nots [.ref 18] (I, L) none (I1, L1)) (c2 : fx_X13_joins [.int (22 : Int32), .ref 18] (I1, L1) none (I2, L2)) (h4 : (xe_cmp .le (I2 18 40) 0) = false) (c3 : fx_X13_bad [.int (1 : Int32), .ref 18] (I2, L2) (some (.int 0)) (I3, L3)) : ∃ n, xr_X13_sentence n (48, [(0, .ref 18), (1, .int l1)], [], (I, L)) (some (.int ((Int32.ofInt (-1)) - (I3 18 16)))) (I3, L3) := by
  refine xe_bF 1 (A := (132, [(0, .ref 18), (1, .int l1)], [], (I, L))) (B := (52, [(0, .ref 18), (1, .int l1)], [], (I, L))) h1 rfl ?_
  refine xe_bF 2 (A := (101, [(0, .ref 18), (1, .int l1)], [], (I, L))) (B := (59, [(0, .ref 18), (1, .int l1)], [], (I, L))) h2 rfl ?_
  refine xe_bF 2 (A := (101, [(0, .ref 18), (1, .int l1)], [], (I, L))) (B := (66, [(0, .ref 18), (1, .int l1)], [], (I, L))) h3 rfl ?_
  refine xe_go 0 (s' := (67, [(0, .ref 18), (1, .int l1)], [.ref 18], (I, L))) rfl ?_
  refine xe_vir (n := 1) (f := fx_X13_nots) rfl (Nat.le_of_ble_eq_true rfl) (List.mem_of_getElem? (i := 2) rfl) (Nat.le_of_ble_eq_true rfl) c1 ?_
  refine xe_go 1 (s' := (73, [(0, .ref 18), (1, .int l1)], [.int (22 : Int32), .ref 18], (I1, L1))) rfl ?_
  refine xe_vir (n := 2) (f := fx_X13_joins) rfl (Nat.le_of_ble_eq_true rfl) (List.mem_of_getElem? (i := 3) rfl) (Nat.le_of_ble_eq_true rfl) c2 ?_
  refine xe_bF 2 (A := (96, [(0, .ref 18), (1, .int l1)], [], (I2, L2))) (B := (83, [(0, .ref 18), (1, .int l1)], [], (I2, L2))) h4 rfl ?_
  refine xe_go 1 (s' := (85, [(0, .ref 18), (1, .int l1)], [.int (1 : Int32), .ref 18], (I2, L2))) rfl ?_
  refine xe_vir (n := 2) (f := fx_X13_bad) rfl (Nat.le_of_ble_eq_true rfl) (List.mem_of_getElem? (i := 4) rfl) (Nat.le_of_ble_eq_true rfl) c3 ?_
  refine xe_go 4 (s' := (95, [(0, .ref 18), (1, .int l1)], [.int ((Int32.ofInt (-1)) - (I3 18 16))], (I3, L3))) rfl ?_
  exact xe_end rfl rfl rfl
set_option maxRecDepth 100000 in
theorem pt_X13_sentence_12 {l1 l2 : Int32} {I : Nat → Nat → Int32} {L : Nat → Nat → Int64} (h1 : (xe_cmp .ge l2 ((3 : Int32) * (I 18 38))) = true) : ∃ n, xr_X13_sentence n (146, [(0, .ref 18), (1, .int l1), (2, .int l2)], [], (I, L)) (some (.int (I 18 39))) (I, L) := by
  refine xe_bT 5 (A := (178, [(0, .ref 18), (1, .int l1), (2, .int l2)], [], (I, L))) (B := (156, [(0, .ref 18), (1, .int l1), (2, .int l2)], [], (I, L))) h1 rfl ?_
  refine xe_go 1 (s' := (182, [(0, .ref 18), (1, .int l1), (2, .int l2)], [.int (I 18 39)], (I, L))) rfl ?_
  exact xe_end rfl rfl rfl
set_option maxRecDepth 100000 in
theorem pt_X13_sentence_13 {l1 l2 : Int32} {I : Nat → Nat → Int32} {L : Nat → Nat → Int64} (h1 : (xe_cmp .ge l2 ((3 : Int32) * (I 18 38))) = false) (h2 : xe_ib l2 160 = true) (h3 : xe_ib ((694 : Int32) + l2) 874 = true) {v9 : Option Value} {hp9 : xe_H} (r9 : ∃ n, xr_X13_sentence n (146, [(0, .ref 18), (1, .int l1), (2, .int (l2 + (1 : Int32)))], [], ((xu I 20 ((((694 : Int32) + l2)).toInt.toNat) (I 22 ((l2).toInt.toNat))), L)) v9 hp9) : ∃ n, xr_X13_sentence n (146, [(0, .ref 18), (1, .int l1), (2, .int l2)], [], (I, L)) v9 hp9 := by
  refine xe_bF 5 (A := (178, [(0, .ref 18), (1, .int l1), (2, .int l2)], [], (I, L))) (B := (156, [(0, .ref 18), (1, .int l1), (2, .int l2)], [], (I, L))) h1 rfl ?_
  refine xe_ar 8 (A := (171, [(0, .ref 18), (1, .int l1), (2, .int l2)], [.int (I 22 ((l2).toInt.toNat)), .int ((694 : Int32) + l2), .ref 20], (I, L))) h2 rfl ?_
  refine xe_ar 0 (A := (172, [(0, .ref 18), (1, .int l1), (2, .int l2)], [], ((xu I 20 ((((694 : Int32) + l2)).toInt.toNat) (I 22 ((l2).toInt.toNat))), L))) h3 rfl ?_
  refine xe_go 1 (s' := (146, [(0, .ref 18), (1, .int l1), (2, .int (l2 + (1 : Int32)))], [], ((xu I 20 ((((694 : Int32) + l2)).toInt.toNat) (I 22 ((l2).toInt.toNat))), L))) rfl ?_
  exact xe_nrm [0, 1, 2] rfl r9

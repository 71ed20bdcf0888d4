/-! ===== the reference's ledger, up to the end of its loop ===== -/
def xi_X13_ledger : List (Nat × Nat × Instr) := [(0, 1, .aload_n 0), (1, 1, .iconst 0), (2, 3, .putfield 1), (5, 1, .iload_n 1), (6, 1, .iconst 0), (7, 1, .iconst 1), (8, 3, .invokestatic 174), (11, 3, .ifCond .ne 7), (14, 3, .sipush (-1000)), (17, 1, .ireturn), (18, 1, .aload_n 0), (19, 3, .sipush 400), (22, 3, .invokevirtual 223), (25, 1, .aload_n 0), (26, 1, .iconst 0), (27, 3, .putfield 159), (30, 1, .aload_n 0), (31, 1, .iconst 0), (32, 3, .putfield 400), (35, 1, .aload_n 0), (36, 3, .invokevirtual 171), (39, 1, .aload_n 0), (40, 3, .getfield 140), (43, 3, .ifCond .eq 40), (46, 1, .aload_n 0), (47, 3, .invokevirtual 406), (50, 3, .ifCond .eq 12), (53, 1, .aload_n 0), (54, 2, .bipush 59), (56, 3, .invokevirtual 232), (59, 3, .ifCond .ne 11), (62, 2, .bipush (-2)), (64, 1, .aload_n 0), (65, 3, .getfield 162), (68, 1, .isub), (69, 1, .ireturn), (70, 1, .aload_n 0), (71, 1, .dup), (72, 3, .getfield 400), (75, 1, .iconst 1), (76, 1, .iadd), (77, 3, .putfield 400), (80, 3, .goto (-41)), (83, 1, .aload_n 0)]
def xg_X13_ledger : zf_ft := [(140, 11, 11, .inl (0, 0)), (162, 11, 16, .inl (0, 0)), (400, 11, 34, .inl (0, 0))]
def xp_X13_ledger : zf_ft := [(1, 11, 0, .inl ((-2147483648), 2147483647)), (159, 11, 15, .inl ((-2147483648), 2147483647)), (400, 11, 34, .inl ((-2147483648), 2147483647))]
def xv_X13_ledger : List (Nat × Nat × xe_F) := [(223, 2, fx_X13_taken), (171, 1, fx_X13_next), (406, 1, fx_X13_ledgerLine), (232, 2, fx_X13_sign)]
def xt_X13_ledger : List (Nat × Nat × xe_F) := [(174, 3, fx_X13_isIn)]
abbrev yr_X13_ledger := xe_runE xGT xSC xRF 5 xg_X13_ledger xp_X13_ledger [] [] (xv_X13_ledger) xt_X13_ledger xi_X13_ledger
def yM_ledger : Room := { frames := 5, cells := 0, slots := 0, locals := 116 }
set_option maxRecDepth 100000 in
set_option maxHeartbeats 4000000 in
theorem yR_X13_ledger (l : Launch) (D : va_G) (k : Nat → ClassId) (B0 : Nat) (ad : Nat → Nat) (al sw : Nat) : xe_Rl l yX13_ledger (zw yX13_ledger cX13_ledger 5 (some .int)) ({ frames := 5, cells := 0, slots := 0, locals := 116 }) cX13_ledger 5 D k ad xGT xSC xRF B0 xg_X13_ledger xp_X13_ledger [] [] xv_X13_ledger xt_X13_ledger (zEx B0 ad al sw) := by
  have hEx := zEx_ok B0 ad al sw
  intro p e s m args below meth c Q Sg w0 A θ S hK hE hAB hA hth
  refine ⟨?_, ?_, ?_, ?_, ?_, ?_⟩
  · exact zf_ac ((fun H locs ws a q0 fs v rest pc ls hP he hv hdg kk => va_get (D := D) (ci := 11) (C := RX13) (T := TX13) (N := 47) (own := RX13) S.1 S.2.1 S.2.2.2.2 (zg_in inW_X13) S.2.2.2.1 hK hP q0 he rfl 11 (by decide) (S.2.2.2.2 (.fieldLink RX13 140 "RungMoneyModel" "token" "I") (List.mem_cons_of_mem _ zw_1359)) (fun _ h9 => h9) hv hdg kk)) (zf_ac ((fun H locs ws a q0 fs v rest pc ls hP he hv hdg kk => va_get (D := D) (ci := 11) (C := RX13) (T := TX13) (N := 47) (own := RX13) S.1 S.2.1 S.2.2.2.2 (zg_in inW_X13) S.2.2.2.1 hK hP q0 he rfl 16 (by decide) (S.2.2.2.2 (.fieldLink RX13 162 "RungMoneyModel" "faultAt" "I") (List.mem_cons_of_mem _ zw_1364)) (fun _ h9 => h9) hv hdg kk)) (zf_ac ((fun H locs ws a q0 fs v rest pc ls hP he hv hdg kk => va_get (D := D) (ci := 11) (C := RX13) (T := TX13) (N := 47) (own := RX13) S.1 S.2.1 S.2.2.2.2 (zg_in inW_X13) S.2.2.2.1 hK hP q0 he rfl 34 (by decide) (S.2.2.2.2 (.fieldLink RX13 400 "RungMoneyModel" "toldMany" "I") (List.mem_cons_of_mem _ zw_1382)) (fun _ h9 => h9) hv hdg kk)) zf_an))
  · exact zf_ac ((fun H locs ws a q0 fs v rest pc ls hP hD hS he hl hv hdg kk => by obtain ⟨x, rfl, h1, h2⟩ := hv; exact va_put (D := D) (ci := 11) (v := .int x) (ty := .int) (C := RX13) (T := TX13) (N := 47) (own := RX13) S.1 S.2.1 S.2.2.2.2 (zg_in inW_X13) tyX13 tyX13_ok nmX13 S.2.2.2.1 hK hP hD hS q0 he rfl 0 (by decide) (S.2.2.2.2 (.fieldLink RX13 1 "RungMoneyModel" "thrown" "I") (List.mem_cons_of_mem _ zw_1348)) (fun _ h9 => h9) rfl (by decide +kernel) rfl rfl hl hdg kk)) (zf_ac ((fun H locs ws a q0 fs v rest pc ls hP hD hS he hl hv hdg kk => by obtain ⟨x, rfl, h1, h2⟩ := hv; exact va_put (D := D) (ci := 11) (v := .int x) (ty := .int) (C := RX13) (T := TX13) (N := 47) (own := RX13) S.1 S.2.1 S.2.2.2.2 (zg_in inW_X13) tyX13 tyX13_ok nmX13 S.2.2.2.1 hK hP hD hS q0 he rfl 15 (by decide) (S.2.2.2.2 (.fieldLink RX13 159 "RungMoneyModel" "fault" "I") (List.mem_cons_of_mem _ zw_1363)) (fun _ h9 => h9) rfl (by decide +kernel) rfl rfl hl hdg kk)) (zf_ac ((fun H locs ws a q0 fs v rest pc ls hP hD hS he hl hv hdg kk => by obtain ⟨x, rfl, h1, h2⟩ := hv; exact va_put (D := D) (ci := 11) (v := .int x) (ty := .int) (C := RX13) (T := TX13) (N := 47) (own := RX13) S.1 S.2.1 S.2.2.2.2 (zg_in inW_X13) tyX13 tyX13_ok nmX13 S.2.2.2.1 hK hP hD hS q0 he rfl 34 (by decide) (S.2.2.2.2 (.fieldLink RX13 400 "RungMoneyModel" "toldMany" "I") (List.mem_cons_of_mem _ zw_1382)) (fun _ h9 => h9) rfl (by decide +kernel) rfl rfl hl hdg kk)) zf_an))
  · exact xe_n2
  · exact xe_n3
  · exact xe_a4 (xe_crV S hEx hE hAB hA hK hth (kx_X13_taken l D k B0 ad al sw) (cwV 1 S.2.2.2.2 (zg_V zw_1495 zw_1497 zw_26 zw_109 zw_1498) rfl rfl rfl (by decide +kernel) ⟨(Nat.le_of_ble_eq_true rfl), (Nat.le_of_ble_eq_true rfl)⟩) ⟨(Nat.le_of_ble_eq_true rfl), (Nat.le_of_ble_eq_true rfl)⟩ 11 rfl rfl 18 (by decide +kernel) fr_X13_taken) (xe_a4 (xe_crV S hEx hE hAB hA hK hth (kx_X13_next l D k B0 ad al sw) (cwV 0 S.2.2.2.2 (zg_V zw_1499 zw_1501 zw_27 zw_109 zw_1502) rfl rfl rfl (by decide +kernel) ⟨(Nat.le_of_ble_eq_true rfl), (Nat.le_of_ble_eq_true rfl)⟩) ⟨(Nat.le_of_ble_eq_true rfl), (Nat.le_of_ble_eq_true rfl)⟩ 11 rfl rfl 18 (by decide +kernel) fr_X13_next) (xe_a4 (xe_crV S hEx hE hAB hA hK hth (kx_X13_ledgerLine l D k B0 ad al sw) (cwV 0 S.2.2.2.2 (zg_V zw_1889 zw_1891 zw_83 zw_109 zw_1892) rfl rfl rfl (by decide +kernel) ⟨(Nat.le_of_ble_eq_true rfl), (Nat.le_of_ble_eq_true rfl)⟩) ⟨(Nat.le_of_ble_eq_true rfl), (Nat.le_of_ble_eq_true rfl)⟩ 11 rfl rfl 18 (by decide +kernel) fr_X13_ledgerLine) (xe_a4 (xe_crV S hEx hE hAB hA hK hth (kx_X13_sign l D k B0 ad al sw) (cwV 1 S.2.2.2.2 (zg_V zw_1564 zw_1566 zw_40 zw_109 zw_1567) rfl rfl rfl (by decide +kernel) ⟨(Nat.le_of_ble_eq_true rfl), (Nat.le_of_ble_eq_true rfl)⟩) ⟨(Nat.le_of_ble_eq_true rfl), (Nat.le_of_ble_eq_true rfl)⟩ 11 rfl rfl 18 (by decide +kernel) fr_X13_sign) xe_n4)))
  · exact xe_a4 (xe_crS S hEx hE hAB hA hK hth (kx_X13_isIn l D k B0 ad al sw) (va_cwS 3 S.2.2.2.2 (zg_S zw_1561 zw_1562 zw_109 zw_1563) rfl rfl rfl (by decide +kernel) ⟨(Nat.le_of_ble_eq_true rfl), (Nat.le_of_ble_eq_true rfl)⟩) ⟨(Nat.le_of_ble_eq_true rfl), (Nat.le_of_ble_eq_true rfl)⟩) xe_n4
set_option maxRecDepth 100000 in
theorem pt_X13_ledger_0 {a1 : Int32} {I I1 I2 I3 : Nat → Nat → Int32} {L L1 L2 L3 : Nat → Nat → Int64} (c1 : fx_X13_isIn [.int (1 : Int32), .int (0 : Int32), .int a1] ((xu I 18 0 (0 : Int32)), L) (some (.int 1)) (I1, L1)) (c2 : fx_X13_taken [.int (400 : Int32), .ref 18] (I1, L1) none (I2, L2)) (c3 : fx_X13_next [.ref 18] ((xu (xu I2 18 15 (0 : Int32)) 18 34 (0 : Int32)), L2) none (I3, L3)) {E9 : (Option Value × xe_H) ⊕ xe_X} (r9 : ∃ n, yr_X13_ledger E9 n (39, [(0, .ref 18), (1, .int a1)], [], (I3, L3))) : ∃ n, yr_X13_ledger E9 n (0, [(0, .ref 18), (1, .int a1)], [], (I, L)) := by
  refine ye_go 5 (s' := (8, [(0, .ref 18), (1, .int a1)], [.int (1 : Int32), .int (0 : Int32), .int a1], ((xu I 18 0 (0 : Int32)), L))) rfl ?_
  refine ye_sta (n := 3) (f := fx_X13_isIn) rfl (Nat.le_of_ble_eq_true rfl) (List.mem_of_getElem? (i := 0) rfl) (Nat.le_of_ble_eq_true rfl) c1 ?_
  refine ye_go 2 (s' := (22, [(0, .ref 18), (1, .int a1)], [.int (400 : Int32), .ref 18], (I1, L1))) rfl ?_
  refine ye_vir (n := 2) (f := fx_X13_taken) rfl (Nat.le_of_ble_eq_true rfl) (List.mem_of_getElem? (i := 0) rfl) (Nat.le_of_ble_eq_true rfl) c2 ?_
  refine ye_go 6 (s' := (36, [(0, .ref 18), (1, .int a1)], [.ref 18], ((xu (xu I2 18 15 (0 : Int32)) 18 34 (0 : Int32)), L2))) rfl ?_
  refine ye_vir (n := 1) (f := fx_X13_next) rfl (Nat.le_of_ble_eq_true rfl) (List.mem_of_getElem? (i := 1) rfl) (Nat.le_of_ble_eq_true rfl) c3 ?_
  exact ye_nrm [0, 1] rfl r9
set_option maxRecDepth 100000 in
theorem pt_X13_ledger_1 {a1 : Int32} {I I1 : Nat → Nat → Int32} {L L1 : Nat → Nat → Int64} (c1 : fx_X13_isIn [.int (1 : Int32), .int (0 : Int32), .int a1] ((xu I 18 0 (0 : Int32)), L) (some (.int 0)) (I1, L1)) : ∃ n, yr_X13_ledger (.inl ((some (.int (Int32.ofInt (-1000)))), (I1, L1))) n (0, [(0, .ref 18), (1, .int a1)], [], (I, L)) := by
  refine ye_go 5 (s' := (8, [(0, .ref 18), (1, .int a1)], [.int (1 : Int32), .int (0 : Int32), .int a1], ((xu I 18 0 (0 : Int32)), L))) rfl ?_
  refine ye_sta (n := 3) (f := fx_X13_isIn) rfl (Nat.le_of_ble_eq_true rfl) (List.mem_of_getElem? (i := 0) rfl) (Nat.le_of_ble_eq_true rfl) c1 ?_
  refine ye_go 1 (s' := (17, [(0, .ref 18), (1, .int a1)], [.int (Int32.ofInt (-1000))], (I1, L1))) rfl ?_
  exact ye_end rfl rfl rfl
set_option maxRecDepth 100000 in
theorem pt_X13_ledger_2 {l1 : Int32} {I : Nat → Nat → Int32} {L : Nat → Nat → Int64} (h1 : (xe_cmp .eq (I 18 11) 0) = true) {E9 : (Option Value × xe_H) ⊕ xe_X} (r9 : ∃ n, yr_X13_ledger E9 n (83, [(0, .ref 18), (1, .int l1)], [], (I, L))) : ∃ n, yr_X13_ledger E9 n (39, [(0, .ref 18), (1, .int l1)], [], (I, L)) := by
  refine ye_bT 2 (A := (83, [(0, .ref 18), (1, .int l1)], [], (I, L))) (B := (46, [(0, .ref 18), (1, .int l1)], [], (I, L))) h1 rfl ?_
  exact ye_nrm [0, 1] rfl r9
set_option maxRecDepth 100000 in
theorem pt_X13_ledger_3 {l1 : Int32} {I I1 I2 : Nat → Nat → Int32} {L L1 L2 : Nat → Nat → Int64} (h1 : (xe_cmp .eq (I 18 11) 0) = false) (c1 : fx_X13_ledgerLine [.ref 18] (I, L) (some (.int 1)) (I1, L1)) (c2 : fx_X13_sign [.int (59 : Int32), .ref 18] (I1, L1) (some (.int 1)) (I2, L2)) {E9 : (Option Value × xe_H) ⊕ xe_X} (r9 : ∃ n, yr_X13_ledger E9 n (39, [(0, .ref 18), (1, .int l1)], [], ((xu I2 18 34 ((I2 18 34) + (1 : Int32))), L2))) : ∃ n, yr_X13_ledger E9 n (39, [(0, .ref 18), (1, .int l1)], [], (I, L)) := by
  refine ye_bF 2 (A := (83, [(0, .ref 18), (1, .int l1)], [], (I, L))) (B := (46, [(0, .ref 18), (1, .int l1)], [], (I, L))) h1 rfl ?_
  refine ye_go 0 (s' := (47, [(0, .ref 18), (1, .int l1)], [.ref 18], (I, L))) rfl ?_
  refine ye_vir (n := 1) (f := fx_X13_ledgerLine) rfl (Nat.le_of_ble_eq_true rfl) (List.mem_of_getElem? (i := 2) rfl) (Nat.le_of_ble_eq_true rfl) c1 ?_
  refine ye_go 2 (s' := (56, [(0, .ref 18), (1, .int l1)], [.int (59 : Int32), .ref 18], (I1, L1))) rfl ?_
  refine ye_vir (n := 2) (f := fx_X13_sign) rfl (Nat.le_of_ble_eq_true rfl) (List.mem_of_getElem? (i := 3) rfl) (Nat.le_of_ble_eq_true rfl) c2 ?_
  refine ye_go 7 (s' := (39, [(0, .ref 18), (1, .int l1)], [], ((xu I2 18 34 ((I2 18 34) + (1 : Int32))), L2))) rfl ?_
  exact ye_nrm [0, 1] rfl r9
set_option maxRecDepth 100000 in
theorem pt_X13_ledger_4 {l1 : Int32} {I I1 I2 : Nat → Nat → Int32} {L L1 L2 : Nat → Nat → Int64} (h1 : (xe_cmp .eq (I 18 11) 0) = false) (c1 : fx_X13_ledgerLine [.ref 18] (I, L) (some (.int 1)) (I1, L1)) (c2 : fx_X13_sign [.int (59 : Int32), .ref 18] (I1, L1) (some (.int 0)) (I2, L2)) : ∃ n, yr_X13_ledger (.inl ((some (.int ((Int32.ofInt (-2)) - (I2 18 16)))), (I2, L2))) n (39, [(0, .ref 18), (1, .int l1)], [], (I, L)) := by
  refine ye_bF 2 (A := (83, [(0, .ref 18), (1, .int l1)], [], (I, L))) (B := (46, [(0, .ref 18), (1, .int l1)], [], (I, L))) h1 rfl ?_
  refine ye_go 0 (s' := (47, [(0, .ref 18), (1, .int l1)], [.ref 18], (I, L))) rfl ?_
  refine ye_vir (n := 1) (f := fx_X13_ledgerLine) rfl (Nat.le_of_ble_eq_true rfl) (List.mem_of_getElem? (i := 2) rfl) (Nat.le_of_ble_eq_true rfl) c1 ?_
  refine ye_go 2 (s' := (56, [(0, .ref 18), (1, .int l1)], [.int (59 : Int32), .ref 18], (I1, L1))) rfl ?_
  refine ye_vir (n := 2) (f := fx_X13_sign) rfl (Nat.le_of_ble_eq_true rfl) (List.mem_of_getElem? (i := 3) rfl) (Nat.le_of_ble_eq_true rfl) c2 ?_
  refine ye_go 4 (s' := (69, [(0, .ref 18), (1, .int l1)], [.int ((Int32.ofInt (-2)) - (I2 18 16))], (I2, L2))) rfl ?_
  exact ye_end rfl rfl rfl
set_option maxRecDepth 100000 in
theorem pt_X13_ledger_5 {l1 : Int32} {I I1 : Nat → Nat → Int32} {L L1 : Nat → Nat → Int64} (h1 : (xe_cmp .eq (I 18 11) 0) = false) (c1 : fx_X13_ledgerLine [.ref 18] (I, L) (some (.int 0)) (I1, L1)) : ∃ n, yr_X13_ledger (.inl ((some (.int ((Int32.ofInt (-2)) - (I1 18 16)))), (I1, L1))) n (39, [(0, .ref 18), (1, .int l1)], [], (I, L)) := by
  refine ye_bF 2 (A := (83, [(0, .ref 18), (1, .int l1)], [], (I, L))) (B := (46, [(0, .ref 18), (1, .int l1)], [], (I, L))) h1 rfl ?_
  refine ye_go 0 (s' := (47, [(0, .ref 18), (1, .int l1)], [.ref 18], (I, L))) rfl ?_
  refine ye_vir (n := 1) (f := fx_X13_ledgerLine) rfl (Nat.le_of_ble_eq_true rfl) (List.mem_of_getElem? (i := 2) rfl) (Nat.le_of_ble_eq_true rfl) c1 ?_
  refine ye_go 4 (s' := (69, [(0, .ref 18), (1, .int l1)], [.int ((Int32.ofInt (-2)) - (I1 18 16))], (I1, L1))) rfl ?_
  exact ye_end rfl rfl rfl

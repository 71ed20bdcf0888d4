/-! ===== the reference reads a line of a LEDGER: tables, contracts, paths ===== -/
def xi_X13_deedOf : List (Nat × Nat × Instr) := [(0, 1, .aload_n 0), (1, 3, .ldc2_w 96), (4, 3, .invokevirtual 193), (7, 3, .ifCond .eq 5), (10, 1, .iconst 1), (11, 1, .ireturn), (12, 1, .aload_n 0), (13, 3, .ldc2_w 98), (16, 3, .invokevirtual 193), (19, 3, .ifCond .eq 5), (22, 1, .iconst 2), (23, 1, .ireturn), (24, 1, .aload_n 0), (25, 3, .ldc2_w 100), (28, 3, .invokevirtual 193), (31, 3, .ifCond .eq 5), (34, 1, .iconst 4), (35, 1, .ireturn), (36, 1, .aload_n 0), (37, 3, .ldc2_w 102), (40, 3, .invokevirtual 193), (43, 3, .ifCond .eq 5), (46, 1, .iconst 5), (47, 1, .ireturn), (48, 1, .aload_n 0), (49, 3, .ldc2_w 104), (52, 3, .invokevirtual 193), (55, 3, .ifCond .eq 6), (58, 2, .bipush 6), (60, 1, .ireturn), (61, 1, .aload_n 0), (62, 3, .ldc2_w 106), (65, 3, .invokevirtual 193), (68, 3, .ifCond .eq 8), (71, 2, .bipush 7), (73, 3, .goto 4), (76, 1, .iconst (-1)), (77, 1, .ireturn)]
def xg_X13_deedOf : zf_ft := []
def xp_X13_deedOf : zf_ft := []
def xv_X13_deedOf : List (Nat × Nat × xe_F) := [(193, 2, fx_X13_isWord)]
def xt_X13_deedOf : List (Nat × Nat × xe_F) := []
abbrev xr_X13_deedOf := xe_run xGT xSC xRF 1 xg_X13_deedOf xp_X13_deedOf [] [(96, 1935767411), (98, 32493233248626035), (100, 422877228659), (102, 123563682985075), (104, 499851486579), (106, 131294708393330)] (xv_X13_deedOf) xt_X13_deedOf xi_X13_deedOf
def fx_X13_deedOf : xe_F := fun us hp v hp' => (us.map fun v => v.category).sum ≤ 1 ∧ xe_rt (some .int) v ∧ (∃ ar, us = ar ++ [.ref 18]) ∧ ∃ n, xr_X13_deedOf n (0, xe_ag 0 us.reverse, [], hp) v hp'
theorem mk_X13_deedOf  {hp hp' : xe_H} {v : Option Value} (hr : xe_rt (some .int) v) (h : ∃ n, xr_X13_deedOf n (0, [(0, .ref 18)], [], hp) v hp') : fx_X13_deedOf [.ref 18] hp v hp' := ⟨Nat.le_of_ble_eq_true rfl, hr, ⟨[], rfl⟩, h⟩
theorem hx_X13_deedOf : ∀ us hp v hp', fx_X13_deedOf us hp v hp' → (us.map fun v => v.category).sum ≤ 1 ∧ xe_rt (some .int) v ∧ ∃ n, xr_X13_deedOf n (0, xe_ag 0 us.reverse, [], hp) v hp' := fun us hp v hp' h => ⟨h.1, h.2.1, h.2.2.2⟩
theorem fr_X13_deedOf : ∀ us hp v hp', fx_X13_deedOf us hp v hp' → ∃ ar, us = ar ++ [.ref 18] := fun us hp v hp' h => h.2.2.1
set_option maxRecDepth 100000 in
set_option maxHeartbeats 4000000 in
theorem kx_X13_deedOf (l : Launch) (D : va_G) (k : Nat → ClassId) (B0 : Nat) (ad : Nat → Nat) (al sw : Nat) : xe_Con l yX13_deedOf (zw yX13_deedOf cX13_deedOf 1 (some .int)) ({ frames := 1, cells := 0, slots := 0, locals := 22 }) D k ad (zEx B0 ad al sw) xGT xSC xRF (fx_X13_deedOf) := by
  have hEx := zEx_ok B0 ad al sw
  refine xe_mk (cc := cX13_deedOf) (nL := 1) (ret := (some .int)) (fg := xg_X13_deedOf) (fp := xp_X13_deedOf) (sg := []) (lc := [(96, 1935767411), (98, 32493233248626035), (100, 422877228659), (102, 123563682985075), (104, 499851486579), (106, 131294708393330)]) (cv := xv_X13_deedOf) (cs := xt_X13_deedOf) (ins := xi_X13_deedOf) (by decide) rfl hEx (by decide +kernel) hx_X13_deedOf ?_
  intro p e s m args below meth c Q Sg w0 A θ S hK hE hAB hA hth
  refine ⟨?_, ?_, ?_, ?_, ?_, ?_⟩
  · exact zf_an
  · exact zf_an
  · exact xe_n2
  · exact xe_a3 ((fun H locs rest pc ls hdg kk => lv_ldc2 S.1 S.2.1 S.2.2.2.1 (S.2.2.2.2 (.constantLong RX13 96 1935767411) (List.mem_cons_of_mem _ zw_1331)) hdg kk)) (xe_a3 ((fun H locs rest pc ls hdg kk => lv_ldc2 S.1 S.2.1 S.2.2.2.1 (S.2.2.2.2 (.constantLong RX13 98 32493233248626035) (List.mem_cons_of_mem _ zw_1332)) hdg kk)) (xe_a3 ((fun H locs rest pc ls hdg kk => lv_ldc2 S.1 S.2.1 S.2.2.2.1 (S.2.2.2.2 (.constantLong RX13 100 422877228659) (List.mem_cons_of_mem _ zw_1333)) hdg kk)) (xe_a3 ((fun H locs rest pc ls hdg kk => lv_ldc2 S.1 S.2.1 S.2.2.2.1 (S.2.2.2.2 (.constantLong RX13 102 123563682985075) (List.mem_cons_of_mem _ zw_1334)) hdg kk)) (xe_a3 ((fun H locs rest pc ls hdg kk => lv_ldc2 S.1 S.2.1 S.2.2.2.1 (S.2.2.2.2 (.constantLong RX13 104 499851486579) (List.mem_cons_of_mem _ zw_1335)) hdg kk)) (xe_a3 ((fun H locs rest pc ls hdg kk => lv_ldc2 S.1 S.2.1 S.2.2.2.1 (S.2.2.2.2 (.constantLong RX13 106 131294708393330) (List.mem_cons_of_mem _ zw_1336)) hdg kk)) xe_n3)))))
  · exact xe_a4 (xe_crV S hEx hE hAB hA hK hth (kx_X13_isWord l D k B0 ad al sw) (cwV 1 S.2.2.2.2 (zg_V zw_1518 zw_1520 zw_30 zw_109 zw_1521) rfl rfl rfl (by decide +kernel) ⟨(Nat.le_of_ble_eq_true rfl), (Nat.le_of_ble_eq_true rfl)⟩) ⟨(Nat.le_of_ble_eq_true rfl), (Nat.le_of_ble_eq_true rfl)⟩ 11 rfl rfl 18 (by decide +kernel) fr_X13_isWord) xe_n4
  · exact xe_n4
set_option maxRecDepth 100000 in
theorem pt_X13_deedOf_0 {I I1 : Nat → Nat → Int32} {L L1 : Nat → Nat → Int64} (c1 : fx_X13_isWord [.long (1935767411 : Int64), .ref 18] (I, L) (some (.int 1)) (I1, L1)) : ∃ n, xr_X13_deedOf n (0, [(0, .ref 18)], [], (I, L)) (some (.int (1 : Int32))) (I1, L1) := by
  refine xe_go 1 (s' := (4, [(0, .ref 18)], [.long (1935767411 : Int64), .ref 18], (I, L))) rfl ?_
  refine xe_vir (n := 2) (f := fx_X13_isWord) rfl (Nat.le_of_ble_eq_true rfl) (List.mem_of_getElem? (i := 0) rfl) (Nat.le_of_ble_eq_true rfl) c1 ?_
  refine xe_go 1 (s' := (11, [(0, .ref 18)], [.int (1 : Int32)], (I1, L1))) rfl ?_
  exact xe_end rfl rfl rfl
set_option maxRecDepth 100000 in
theorem pt_X13_deedOf_1 {I I1 I2 : Nat → Nat → Int32} {L L1 L2 : Nat → Nat → Int64} (c1 : fx_X13_isWord [.long (1935767411 : Int64), .ref 18] (I, L) (some (.int 0)) (I1, L1)) (c2 : fx_X13_isWord [.long (32493233248626035 : Int64), .ref 18] (I1, L1) (some (.int 1)) (I2, L2)) : ∃ n, xr_X13_deedOf n (0, [(0, .ref 18)], [], (I, L)) (some (.int (2 : Int32))) (I2, L2) := by
  refine xe_go 1 (s' := (4, [(0, .ref 18)], [.long (1935767411 : Int64), .ref 18], (I, L))) rfl ?_
  refine xe_vir (n := 2) (f := fx_X13_isWord) rfl (Nat.le_of_ble_eq_true rfl) (List.mem_of_getElem? (i := 0) rfl) (Nat.le_of_ble_eq_true rfl) c1 ?_
  refine xe_go 2 (s' := (16, [(0, .ref 18)], [.long (32493233248626035 : Int64), .ref 18], (I1, L1))) rfl ?_
  refine xe_vir (n := 2) (f := fx_X13_isWord) rfl (Nat.le_of_ble_eq_true rfl) (List.mem_of_getElem? (i := 0) rfl) (Nat.le_of_ble_eq_true rfl) c2 ?_
  refine xe_go 1 (s' := (23, [(0, .ref 18)], [.int (2 : Int32)], (I2, L2))) rfl ?_
  exact xe_end rfl rfl rfl
set_option maxRecDepth 100000 in
theorem pt_X13_deedOf_2 {I I1 I2 I3 : Nat → Nat → Int32} {L L1 L2 L3 : Nat → Nat → Int64} (c1 : fx_X13_isWord [.long (1935767411 : Int64), .ref 18] (I, L) (some (.int 0)) (I1, L1)) (c2 : fx_X13_isWord [.long (32493233248626035 : Int64), .ref 18] (I1, L1) (some (.int 0)) (I2, L2)) (c3 : fx_X13_isWord [.long (422877228659 : Int64), .ref 18] (I2, L2) (some (.int 1)) (I3, L3)) : ∃ n, xr_X13_deedOf n (0, [(0, .ref 18)], [], (I, L)) (some (.int (4 : Int32))) (I3, L3) := by
  refine xe_go 1 (s' := (4, [(0, .ref 18)], [.long (1935767411 : Int64), .ref 18], (I, L))) rfl ?_
  refine xe_vir (n := 2) (f := fx_X13_isWord) rfl (Nat.le_of_ble_eq_true rfl) (List.mem_of_getElem? (i := 0) rfl) (Nat.le_of_ble_eq_true rfl) c1 ?_
  refine xe_go 2 (s' := (16, [(0, .ref 18)], [.long (32493233248626035 : Int64), .ref 18], (I1, L1))) rfl ?_
  refine xe_vir (n := 2) (f := fx_X13_isWord) rfl (Nat.le_of_ble_eq_true rfl) (List.mem_of_getElem? (i := 0) rfl) (Nat.le_of_ble_eq_true rfl) c2 ?_
  refine xe_go 2 (s' := (28, [(0, .ref 18)], [.long (422877228659 : Int64), .ref 18], (I2, L2))) rfl ?_
  refine xe_vir (n := 2) (f := fx_X13_isWord) rfl (Nat.le_of_ble_eq_true rfl) (List.mem_of_getElem? (i := 0) rfl) (Nat.le_of_ble_eq_true rfl) c3 ?_
  refine xe_go 1 (s' := (35, [(0, .ref 18)], [.int (4 : Int32)], (I3, L3))) rfl ?_
  exact xe_end rfl rfl rfl
set_option maxRecDepth 100000 in
theorem pt_X13_deedOf_3 {I I1 I2 I3 I4 : Nat → Nat → Int32} {L L1 L2 L3 L4 : Nat → Nat → Int64} (c1 : fx_X13_isWord [.long (1935767411 : Int64), .ref 18] (I, L) (some (.int 0)) (I1, L1)) (c2 : fx_X13_isWord [.long (32493233248626035 : Int64), .ref 18] (I1, L1) (some (.int 0)) (I2, L2)) (c3 : fx_X13_isWord [.long (422877228659 : Int64), .ref 18] (I2, L2) (some (.int 0)) (I3, L3)) (c4 : fx_X13_isWord [.long (123563682985075 : Int64), .ref 18] (I3, L3) (some (.int 1)) (I4, L4)) : ∃ n, xr_X13_deedOf n (0, [(0, .ref 18)], [], (I, L)) (some (.int (5 : Int32))) (I4, L4) := by
  refine xe_go 1 (s' := (4, [(0, .ref 18)], [.long (1935767411 : Int64), .ref 18], (I, L))) rfl ?_
  refine xe_vir (n := 2) (f := fx_X13_isWord) rfl (Nat.le_of_ble_eq_true rfl) (List.mem_of_getElem? (i := 0) rfl) (Nat.le_of_ble_eq_true rfl) c1 ?_
  refine xe_go 2 (s' := (16, [(0, .ref 18)], [.long (32493233248626035 : Int64), .ref 18], (I1, L1))) rfl ?_
  refine xe_vir (n := 2) (f := fx_X13_isWord) rfl (Nat.le_of_ble_eq_true rfl) (List.mem_of_getElem? (i := 0) rfl) (Nat.le_of_ble_eq_true rfl) c2 ?_
  refine xe_go 2 (s' := (28, [(0, .ref 18)], [.long (422877228659 : Int64), .ref 18], (I2, L2))) rfl ?_
  refine xe_vir (n := 2) (f := fx_X13_isWord) rfl (Nat.le_of_ble_eq_true rfl) (List.mem_of_getElem? (i := 0) rfl) (Nat.le_of_ble_eq_true rfl) c3 ?_
  refine xe_go 2 (s' := (40, [(0, .ref 18)], [.long (123563682985075 : Int64), .ref 18], (I3, L3))) rfl ?_
  refine xe_vir (n := 2) (f := fx_X13_isWord) rfl (Nat.le_of_ble_eq_true rfl) (List.mem_of_getElem? (i := 0) rfl) (Nat.le_of_ble_eq_true rfl) c4 ?_
  refine xe_go 1 (s' := (47, [(0, .ref 18)], [.int (5 : Int32)], (I4, L4))) rfl ?_
  exact xe_end rfl rfl rfl
set_option maxRecDepth 100000 in
theorem pt_X13_deedOf_4 {I I1 I2 I3 I4 I5 : Nat → Nat → Int32} {L L1 L2 L3 L4 L5 : Nat → Nat → Int64} (c1 : fx_X13_isWord [.long (1935767411 : Int64), .ref 18] (I, L) (some (.int 0)) (I1, L1)) (c2 : fx_X13_isWord [.long (32493233248626035 : Int64), .ref 18] (I1, L1) (some (.int 0)) (I2, L2)) (c3 : fx_X13_isWord [.long (422877228659 : Int64), .ref 18] (I2, L2) (some (.int 0)) (I3, L3)) (c4 : fx_X13_isWord [.long (123563682985075 : Int64), .ref 18] (I3, L3) (some (.int 0)) (I4, L4)) (c5 : fx_X13_isWord [.long (499851486579 : Int64), .ref 18] (I4, L4) (some (.int 1)) (I5, L5)) : ∃ n, xr_X13_deedOf n (0, [(0, .ref 18)], [], (I, L)) (some (.int (6 : Int32))) (I5, L5) := by
  refine xe_go 1 (s' := (4, [(0, .ref 18)], [.long (1935767411 : Int64), .ref 18], (I, L))) rfl ?_
  refine xe_vir (n := 2) (f := fx_X13_isWord) rfl (Nat.le_of_ble_eq_true rfl) (List.mem_of_getElem? (i := 0) rfl) (Nat.le_of_ble_eq_true rfl) c1 ?_
  refine xe_go 2 (s' := (16, [(0, .ref 18)], [.long (32493233248626035 : Int64), .ref 18], (I1, L1))) rfl ?_
  refine xe_vir (n := 2) (f := fx_X13_isWord) rfl (Nat.le_of_ble_eq_true rfl) (List.mem_of_getElem? (i := 0) rfl) (Nat.le_of_ble_eq_true rfl) c2 ?_
  refine xe_go 2 (s' := (28, [(0, .ref 18)], [.long (422877228659 : Int64), .ref 18], (I2, L2))) rfl ?_
  refine xe_vir (n := 2) (f := fx_X13_isWord) rfl (Nat.le_of_ble_eq_true rfl) (List.mem_of_getElem? (i := 0) rfl) (Nat.le_of_ble_eq_true rfl) c3 ?_
  refine xe_go 2 (s' := (40, [(0, .ref 18)], [.long (123563682985075 : Int64), .ref 18], (I3, L3))) rfl ?_
  refine xe_vir (n := 2) (f := fx_X13_isWord) rfl (Nat.le_of_ble_eq_true rfl) (List.mem_of_getElem? (i := 0) rfl) (Nat.le_of_ble_eq_true rfl) c4 ?_
  refine xe_go 2 (s' := (52, [(0, .ref 18)], [.long (499851486579 : Int64), .ref 18], (I4, L4))) rfl ?_
  refine xe_vir (n := 2) (f := fx_X13_isWord) rfl (Nat.le_of_ble_eq_true rfl) (List.mem_of_getElem? (i := 0) rfl) (Nat.le_of_ble_eq_true rfl) c5 ?_
  refine xe_go 1 (s' := (60, [(0, .ref 18)], [.int (6 : Int32)], (I5, L5))) rfl ?_
  exact xe_end rfl rfl rfl
set_option maxRecDepth 100000 in
theorem pt_X13_deedOf_5 {I I1 I2 I3 I4 I5 I6 : Nat → Nat → Int32} {L L1 L2 L3 L4 L5 L6 : Nat → Nat → Int64} (c1 : fx_X13_isWord [.long (1935767411 : Int64), .ref 18] (I, L) (some (.int 0)) (I1, L1)) (c2 : fx_X13_isWord [.long (32493233248626035 : Int64), .ref 18] (I1, L1) (some (.int 0)) (I2, L2)) (c3 : fx_X13_isWord [.long (422877228659 : Int64), .ref 18] (I2, L2) (some (.int 0)) (I3, L3)) (c4 : fx_X13_isWord [.long (123563682985075 : Int64), .ref 18] (I3, L3) (some (.int 0)) (I4, L4)) (c5 : fx_X13_isWord [.long (499851486579 : Int64), .ref 18] (I4, L4) (some (.int 0)) (I5, L5)) (c6 : fx_X13_isWord [.long (131294708393330 : Int64), .ref 18] (I5, L5) (some (.int 1)) (I6, L6)) : ∃ n, xr_X13_deedOf n (0, [(0, .ref 18)], [], (I, L)) (some (.int (7 : Int32))) (I6, L6) := by
  refine xe_go 1 (s' := (4, [(0, .ref 18)], [.long (1935767411 : Int64), .ref 18], (I, L))) rfl ?_
  refine xe_vir (n := 2) (f := fx_X13_isWord) rfl (Nat.le_of_ble_eq_true rfl) (List.mem_of_getElem? (i := 0) rfl) (Nat.le_of_ble_eq_true rfl) c1 ?_
  refine xe_go 2 (s' := (16, [(0, .ref 18)], [.long (32493233248626035 : Int64), .ref 18], (I1, L1))) rfl ?_
  refine xe_vir (n := 2) (f := fx_X13_isWord) rfl (Nat.le_of_ble_eq_true rfl) (List.mem_of_getElem? (i := 0) rfl) (Nat.le_of_ble_eq_true rfl) c2 ?_
  refine xe_go 2 (s' := (28, [(0, .ref 18)], [.long (422877228659 : Int64), .ref 18], (I2, L2))) rfl ?_
  refine xe_vir (n := 2) (f := fx_X13_isWord) rfl (Nat.le_of_ble_eq_true rfl) (List.mem_of_getElem? (i := 0) rfl) (Nat.le_of_ble_eq_true rfl) c3 ?_
  refine xe_go 2 (s' := (40, [(0, .ref 18)], [.long (123563682985075 : Int64), .ref 18], (I3, L3))) rfl ?_
  refine xe_vir (n := 2) (f := fx_X13_isWord) rfl (Nat.le_of_ble_eq_true rfl) (List.mem_of_getElem? (i := 0) rfl) (Nat.le_of_ble_eq_true rfl) c4 ?_
  refine xe_go 2 (s' := (52, [(0, .ref 18)], [.long (499851486579 : Int64), .ref 18], (I4, L4))) rfl ?_
  refine xe_vir (n := 2) (f := fx_X13_isWord) rfl (Nat.le_of_ble_eq_true rfl) (List.mem_of_getElem? (i := 0) rfl) (Nat.le_of_ble_eq_true rfl) c5 ?_
  refine xe_go 2 (s' := (65, [(0, .ref 18)], [.long (131294708393330 : Int64), .ref 18], (I5, L5))) rfl ?_
  refine xe_vir (n := 2) (f := fx_X13_isWord) rfl (Nat.le_of_ble_eq_true rfl) (List.mem_of_getElem? (i := 0) rfl) (Nat.le_of_ble_eq_true rfl) c6 ?_
  refine xe_go 2 (s' := (77, [(0, .ref 18)], [.int (7 : Int32)], (I6, L6))) rfl ?_
  exact xe_end rfl rfl rfl
set_option maxRecDepth 100000 in
theorem pt_X13_deedOf_6 {I I1 I2 I3 I4 I5 I6 : Nat → Nat → Int32} {L L1 L2 L3 L4 L5 L6 : Nat → Nat → Int64} (c1 : fx_X13_isWord [.long (1935767411 : Int64), .ref 18] (I, L) (some (.int 0)) (I1, L1)) (c2 : fx_X13_isWord [.long (32493233248626035 : Int64), .ref 18] (I1, L1) (some (.int 0)) (I2, L2)) (c3 : fx_X13_isWord [.long (422877228659 : Int64), .ref 18] (I2, L2) (some (.int 0)) (I3, L3)) (c4 : fx_X13_isWord [.long (123563682985075 : Int64), .ref 18] (I3, L3) (some (.int 0)) (I4, L4)) (c5 : fx_X13_isWord [.long (499851486579 : Int64), .ref 18] (I4, L4) (some (.int 0)) (I5, L5)) (c6 : fx_X13_isWord [.long (131294708393330 : Int64), .ref 18] (I5, L5) (some (.int 0)) (I6, L6)) : ∃ n, xr_X13_deedOf n (0, [(0, .ref 18)], [], (I, L)) (some (.int (Int32.ofInt (-1)))) (I6, L6) := by
  refine xe_go 1 (s' := (4, [(0, .ref 18)], [.long (1935767411 : Int64), .ref 18], (I, L))) rfl ?_
  refine xe_vir (n := 2) (f := fx_X13_isWord) rfl (Nat.le_of_ble_eq_true rfl) (List.mem_of_getElem? (i := 0) rfl) (Nat.le_of_ble_eq_true rfl) c1 ?_
  refine xe_go 2 (s' := (16, [(0, .ref 18)], [.long (32493233248626035 : Int64), .ref 18], (I1, L1))) rfl ?_
  refine xe_vir (n := 2) (f := fx_X13_isWord) rfl (Nat.le_of_ble_eq_true rfl) (List.mem_of_getElem? (i := 0) rfl) (Nat.le_of_ble_eq_true rfl) c2 ?_
  refine xe_go 2 (s' := (28, [(0, .ref 18)], [.long (422877228659 : Int64), .ref 18], (I2, L2))) rfl ?_
  refine xe_vir (n := 2) (f := fx_X13_isWord) rfl (Nat.le_of_ble_eq_true rfl) (List.mem_of_getElem? (i := 0) rfl) (Nat.le_of_ble_eq_true rfl) c3 ?_
  refine xe_go 2 (s' := (40, [(0, .ref 18)], [.long (123563682985075 : Int64), .ref 18], (I3, L3))) rfl ?_
  refine xe_vir (n := 2) (f := fx_X13_isWord) rfl (Nat.le_of_ble_eq_true rfl) (List.mem_of_getElem? (i := 0) rfl) (Nat.le_of_ble_eq_true rfl) c4 ?_
  refine xe_go 2 (s' := (52, [(0, .ref 18)], [.long (499851486579 : Int64), .ref 18], (I4, L4))) rfl ?_
  refine xe_vir (n := 2) (f := fx_X13_isWord) rfl (Nat.le_of_ble_eq_true rfl) (List.mem_of_getElem? (i := 0) rfl) (Nat.le_of_ble_eq_true rfl) c5 ?_
  refine xe_go 2 (s' := (65, [(0, .ref 18)], [.long (131294708393330 : Int64), .ref 18], (I5, L5))) rfl ?_
  refine xe_vir (n := 2) (f := fx_X13_isWord) rfl (Nat.le_of_ble_eq_true rfl) (List.mem_of_getElem? (i := 0) rfl) (Nat.le_of_ble_eq_true rfl) c6 ?_
  refine xe_go 1 (s' := (77, [(0, .ref 18)], [.int (Int32.ofInt (-1))], (I6, L6))) rfl ?_
  exact xe_end rfl rfl rfl
def xi_X13_ledgerLine : List (Nat × Nat × Instr) := [(0, 1, .iconst 4), (1, 1, .aload_n 0), (2, 3, .getfield 400), (5, 1, .imul), (6, 1, .istore_n 1), (7, 1, .aload_n 0), (8, 3, .invokevirtual 403), (11, 1, .istore_n 2), (12, 1, .iload_n 2), (13, 3, .ifCond .ge 19), (16, 1, .aload_n 0), (17, 1, .iconst 0), (18, 1, .aload_n 0), (19, 3, .getfield 33), (22, 1, .iconst 0), (23, 1, .iaload), (24, 3, .invokevirtual 189), (27, 3, .ifCond .ne 5), (30, 1, .iconst 0), (31, 1, .ireturn), (32, 1, .aload_n 0), (33, 3, .getfield 400), (36, 2, .bipush 40), (38, 3, .if_icmp .ne 9), (41, 1, .aload_n 0), (42, 1, .iconst 4), (43, 3, .invokevirtual 168), (46, 1, .ireturn), (47, 1, .aload_n 0), (48, 3, .getfield 40), (51, 1, .iload_n 1), (52, 1, .iconst 3), (53, 1, .iadd), (54, 1, .aload_n 0), (55, 3, .getfield 178), (58, 1, .iastore), (59, 1, .aload_n 0), (60, 3, .invokevirtual 171), (63, 1, .iload_n 2), (64, 3, .ifCond .ge 47), (67, 1, .aload_n 0), (68, 3, .ldc2_w 92), (71, 3, .invokevirtual 193), (74, 3, .ifCond .eq 7), (77, 1, .iconst 0), (78, 3, .goto 18), (81, 1, .aload_n 0), (82, 3, .ldc2_w 94), (85, 3, .invokevirtual 193), (88, 3, .ifCond .eq 7), (91, 1, .iconst 3), (92, 3, .goto 4), (95, 1, .iconst (-1)), (96, 1, .istore_n 2), (97, 1, .iload_n 2), (98, 3, .ifCond .ge 9), (101, 1, .aload_n 0), (102, 1, .iconst 1), (103, 3, .invokevirtual 168), (106, 1, .ireturn), (107, 1, .aload_n 0), (108, 3, .invokevirtual 171), (111, 1, .aload_n 0), (112, 3, .getfield 40), (115, 1, .iload_n 1), (116, 1, .iload_n 2), (117, 1, .iastore), (118, 1, .iload_n 2), (119, 2, .bipush 6), (121, 3, .if_icmp .ne 5), (124, 1, .iconst 1), (125, 1, .ireturn), (126, 1, .aload_n 0), (127, 1, .iconst 0), (128, 1, .iload_n 2), (129, 2, .bipush 7), (131, 3, .if_icmp .ne 8), (134, 2, .bipush 99), (136, 3, .goto 5), (139, 2, .bipush 15), (141, 3, .invokevirtual 210), (144, 3, .ifCond .ne 5), (147, 1, .iconst 0), (148, 1, .ireturn), (149, 1, .aload_n 0), (150, 3, .getfield 40), (153, 1, .iload_n 1), (154, 1, .iconst 1), (155, 1, .iadd), (156, 1, .aload_n 0), (157, 3, .getfield 178), (160, 1, .iastore), (161, 1, .iload_n 2), (162, 1, .iconst 3), (163, 3, .if_icmp .eq 14), (166, 1, .iload_n 2), (167, 1, .iconst 4), (168, 3, .if_icmp .eq 9), (171, 1, .iload_n 2), (172, 2, .bipush 7), (174, 3, .if_icmp .ne 5), (177, 1, .iconst 1), (178, 1, .ireturn), (179, 1, .iload_n 2), (180, 3, .ifCond .ne 19), (183, 1, .aload_n 0), (184, 1, .iconst 0), (185, 1, .aload_n 0), (186, 3, .getfield 33), (189, 1, .iconst 0), (190, 1, .iaload), (191, 3, .invokevirtual 197), (194, 3, .ifCond .ne 27), (197, 1, .iconst 0), (198, 1, .ireturn), (199, 1, .aload_n 0), (200, 1, .iconst 0), (201, 1, .iload_n 2), (202, 1, .iconst 2), (203, 3, .if_icmp .ne 8), (206, 2, .bipush 15), (208, 3, .goto 5), (211, 2, .bipush 31), (213, 3, .invokevirtual 210), (216, 3, .ifCond .ne 5), (219, 1, .iconst 0), (220, 1, .ireturn), (221, 1, .aload_n 0), (222, 3, .getfield 40), (225, 1, .iload_n 1), (226, 1, .iconst 2), (227, 1, .iadd), (228, 1, .aload_n 0), (229, 3, .getfield 178), (232, 1, .iastore), (233, 1, .iconst 1), (234, 1, .ireturn)]
def xg_X13_ledgerLine : zf_ft := [(400, 11, 34, .inl (0, 0)), (33, 11, 6, .inl (0, 0)), (40, 11, 8, .inl (0, 0)), (178, 11, 18, .inl (0, 0))]
def xp_X13_ledgerLine : zf_ft := []
def xv_X13_ledgerLine : List (Nat × Nat × xe_F) := [(403, 1, fx_X13_deedOf), (189, 3, fx_X13_looksAt), (168, 2, fx_X13_bad), (171, 1, fx_X13_next), (193, 2, fx_X13_isWord), (210, 3, fx_X13_takes), (197, 3, fx_X13_takesName)]
def xt_X13_ledgerLine : List (Nat × Nat × xe_F) := []
abbrev xr_X13_ledgerLine := xe_run xGT xSC xRF 3 xg_X13_ledgerLine xp_X13_ledgerLine [] [(92, 1885436275), (94, 109317276394099)] (xv_X13_ledgerLine) xt_X13_ledgerLine xi_X13_ledgerLine
def fx_X13_ledgerLine : xe_F := fun us hp v hp' => (us.map fun v => v.category).sum ≤ 3 ∧ xe_rt (some .boolean) v ∧ (∃ ar, us = ar ++ [.ref 18]) ∧ ∃ n, xr_X13_ledgerLine n (0, xe_ag 0 us.reverse, [], hp) v hp'
theorem mk_X13_ledgerLine  {hp hp' : xe_H} {v : Option Value} (hr : xe_rt (some .boolean) v) (h : ∃ n, xr_X13_ledgerLine n (0, [(0, .ref 18)], [], hp) v hp') : fx_X13_ledgerLine [.ref 18] hp v hp' := ⟨Nat.le_of_ble_eq_true rfl, hr, ⟨[], rfl⟩, h⟩
theorem hx_X13_ledgerLine : ∀ us hp v hp', fx_X13_ledgerLine us hp v hp' → (us.map fun v => v.category).sum ≤ 3 ∧ xe_rt (some .boolean) v ∧ ∃ n, xr_X13_ledgerLine n (0, xe_ag 0 us.reverse, [], hp) v hp' := fun us hp v hp' h => ⟨h.1, h.2.1, h.2.2.2⟩
theorem fr_X13_ledgerLine : ∀ us hp v hp', fx_X13_ledgerLine us hp v hp' → ∃ ar, us = ar ++ [.ref 18] := fun us hp v hp' h => h.2.2.1
set_option maxRecDepth 100000 in
set_option maxHeartbeats 4000000 in
theorem kx_X13_ledgerLine (l : Launch) (D : va_G) (k : Nat → ClassId) (B0 : Nat) (ad : Nat → Nat) (al sw : Nat) : xe_Con l yX13_ledgerLine (zw yX13_ledgerLine cX13_ledgerLine 3 (some .boolean)) ({ frames := 3, cells := 0, slots := 0, locals := 67 }) D k ad (zEx B0 ad al sw) xGT xSC xRF (fx_X13_ledgerLine) := by
  have hEx := zEx_ok B0 ad al sw
  refine xe_mk (cc := cX13_ledgerLine) (nL := 3) (ret := (some .boolean)) (fg := xg_X13_ledgerLine) (fp := xp_X13_ledgerLine) (sg := []) (lc := [(92, 1885436275), (94, 109317276394099)]) (cv := xv_X13_ledgerLine) (cs := xt_X13_ledgerLine) (ins := xi_X13_ledgerLine) (by decide) rfl hEx (by decide +kernel) hx_X13_ledgerLine ?_
  intro p e s m args below meth c Q Sg w0 A θ S hK hE hAB hA hth
  refine ⟨?_, ?_, ?_, ?_, ?_, ?_⟩
  · exact zf_ac ((fun H locs ws a q0 fs v rest pc ls hP he hv hdg kk => va_get (D := D) (ci := 11) (C := RX13) (T := TX13) (N := 47) (own := RX13) S.1 S.2.1 S.2.2.2.2 (zg_in inW_X13) S.2.2.2.1 hK hP q0 he rfl 34 (by decide) (S.2.2.2.2 (.fieldLink RX13 400 "RungMoneyModel" "toldMany" "I") (List.mem_cons_of_mem _ zw_1382)) (fun _ h9 => h9) hv hdg kk)) (zf_ac ((fun H locs ws a q0 fs v rest pc ls hP he hv hdg kk => va_get (D := D) (ci := 11) (C := RX13) (T := TX13) (N := 47) (own := RX13) S.1 S.2.1 S.2.2.2.2 (zg_in inW_X13) S.2.2.2.1 hK hP q0 he rfl 6 (by decide) (S.2.2.2.2 (.fieldLink RX13 33 "RungMoneyModel" "s" "[I") (List.mem_cons_of_mem _ zw_1354)) (fun _ h9 => h9) hv hdg kk)) (zf_ac ((fun H locs ws a q0 fs v rest pc ls hP he hv hdg kk => va_get (D := D) (ci := 11) (C := RX13) (T := TX13) (N := 47) (own := RX13) S.1 S.2.1 S.2.2.2.2 (zg_in inW_X13) S.2.2.2.1 hK hP q0 he rfl 8 (by decide) (S.2.2.2.2 (.fieldLink RX13 40 "RungMoneyModel" "read" "[I") (List.mem_cons_of_mem _ zw_1356)) (fun _ h9 => h9) hv hdg kk)) (zf_ac ((fun H locs ws a q0 fs v rest pc ls hP he hv hdg kk => va_get (D := D) (ci := 11) (C := RX13) (T := TX13) (N := 47) (own := RX13) S.1 S.2.1 S.2.2.2.2 (zg_in inW_X13) S.2.2.2.1 hK hP q0 he rfl 18 (by decide) (S.2.2.2.2 (.fieldLink RX13 178 "RungMoneyModel" "got" "I") (List.mem_cons_of_mem _ zw_1366)) (fun _ h9 => h9) hv hdg kk)) zf_an)))
  · exact zf_an
  · exact xe_n2
  · exact xe_a3 ((fun H locs rest pc ls hdg kk => lv_ldc2 S.1 S.2.1 S.2.2.2.1 (S.2.2.2.2 (.constantLong RX13 92 1885436275) (List.mem_cons_of_mem _ zw_1329)) hdg kk)) (xe_a3 ((fun H locs rest pc ls hdg kk => lv_ldc2 S.1 S.2.1 S.2.2.2.1 (S.2.2.2.2 (.constantLong RX13 94 109317276394099) (List.mem_cons_of_mem _ zw_1330)) hdg kk)) xe_n3)
  · exact xe_a4 (xe_crV S hEx hE hAB hA hK hth (kx_X13_deedOf l D k B0 ad al sw) (cwV 0 S.2.2.2.2 (zg_V zw_1893 zw_1895 zw_84 zw_109 zw_1896) rfl rfl rfl (by decide +kernel) ⟨(Nat.le_of_ble_eq_true rfl), (Nat.le_of_ble_eq_true rfl)⟩) ⟨(Nat.le_of_ble_eq_true rfl), (Nat.le_of_ble_eq_true rfl)⟩ 11 rfl rfl 18 (by decide +kernel) fr_X13_deedOf) (xe_a4 (xe_crV S hEx hE hAB hA hK hth (kx_X13_looksAt l D k B0 ad al sw) (cwV 2 S.2.2.2.2 (zg_V zw_1538 zw_1540 zw_35 zw_109 zw_1541) rfl rfl rfl (by decide +kernel) ⟨(Nat.le_of_ble_eq_true rfl), (Nat.le_of_ble_eq_true rfl)⟩) ⟨(Nat.le_of_ble_eq_true rfl), (Nat.le_of_ble_eq_true rfl)⟩ 11 rfl rfl 18 (by decide +kernel) fr_X13_looksAt) (xe_a4 (xe_crV S hEx hE hAB hA hK hth (kx_X13_bad l D k B0 ad al sw) (cwV 1 S.2.2.2.2 (zg_V zw_1522 zw_1524 zw_31 zw_109 zw_1525) rfl rfl rfl (by decide +kernel) ⟨(Nat.le_of_ble_eq_true rfl), (Nat.le_of_ble_eq_true rfl)⟩) ⟨(Nat.le_of_ble_eq_true rfl), (Nat.le_of_ble_eq_true rfl)⟩ 11 rfl rfl 18 (by decide +kernel) fr_X13_bad) (xe_a4 (xe_crV S hEx hE hAB hA hK hth (kx_X13_next l D k B0 ad al sw) (cwV 0 S.2.2.2.2 (zg_V zw_1499 zw_1501 zw_27 zw_109 zw_1502) rfl rfl rfl (by decide +kernel) ⟨(Nat.le_of_ble_eq_true rfl), (Nat.le_of_ble_eq_true rfl)⟩) ⟨(Nat.le_of_ble_eq_true rfl), (Nat.le_of_ble_eq_true rfl)⟩ 11 rfl rfl 18 (by decide +kernel) fr_X13_next) (xe_a4 (xe_crV S hEx hE hAB hA hK hth (kx_X13_isWord l D k B0 ad al sw) (cwV 1 S.2.2.2.2 (zg_V zw_1518 zw_1520 zw_30 zw_109 zw_1521) rfl rfl rfl (by decide +kernel) ⟨(Nat.le_of_ble_eq_true rfl), (Nat.le_of_ble_eq_true rfl)⟩) ⟨(Nat.le_of_ble_eq_true rfl), (Nat.le_of_ble_eq_true rfl)⟩ 11 rfl rfl 18 (by decide +kernel) fr_X13_isWord) (xe_a4 (xe_crV S hEx hE hAB hA hK hth (kx_X13_takes l D k B0 ad al sw) (cwV 2 S.2.2.2.2 (zg_V zw_1557 zw_1559 zw_39 zw_109 zw_1560) rfl rfl rfl (by decide +kernel) ⟨(Nat.le_of_ble_eq_true rfl), (Nat.le_of_ble_eq_true rfl)⟩) ⟨(Nat.le_of_ble_eq_true rfl), (Nat.le_of_ble_eq_true rfl)⟩ 11 rfl rfl 18 (by decide +kernel) fr_X13_takes) (xe_a4 (xe_crV S hEx hE hAB hA hK hth (kx_X13_takesName l D k B0 ad al sw) (cwV 2 S.2.2.2.2 (zg_V zw_1534 zw_1536 zw_34 zw_109 zw_1537) rfl rfl rfl (by decide +kernel) ⟨(Nat.le_of_ble_eq_true rfl), (Nat.le_of_ble_eq_true rfl)⟩) ⟨(Nat.le_of_ble_eq_true rfl), (Nat.le_of_ble_eq_true rfl)⟩ 11 rfl rfl 18 (by decide +kernel) fr_X13_takesName) xe_n4))))))
  · exact xe_n4
set_option maxRecDepth 100000 in
theorem pt_X13_ledgerLine_0 {I I1 : Nat → Nat → Int32} {L L1 : Nat → Nat → Int64} {r1 : Int32} (c1 : fx_X13_deedOf [.ref 18] (I, L) (some (.int r1)) (I1, L1)) (h1 : (xe_cmp .ge r1 0) = true) {v9 : Option Value} {hp9 : xe_H} (r9 : ∃ n, xr_X13_ledgerLine n (32, [(0, .ref 18), (1, .int ((4 : Int32) * (I 18 34))), (2, .int r1)], [], (I1, L1)) v9 hp9) : ∃ n, xr_X13_ledgerLine n (0, [(0, .ref 18)], [], (I, L)) v9 hp9 := by
  refine xe_go 5 (s' := (8, [(0, .ref 18), (1, .int ((4 : Int32) * (I 18 34)))], [.ref 18], (I, L))) rfl ?_
  refine xe_vir (n := 1) (f := fx_X13_deedOf) rfl (Nat.le_of_ble_eq_true rfl) (List.mem_of_getElem? (i := 0) rfl) (Nat.le_of_ble_eq_true rfl) c1 ?_
  refine xe_bT 2 (A := (32, [(0, .ref 18), (1, .int ((4 : Int32) * (I 18 34))), (2, .int r1)], [], (I1, L1))) (B := (16, [(0, .ref 18), (1, .int ((4 : Int32) * (I 18 34))), (2, .int r1)], [], (I1, L1))) h1 rfl ?_
  exact xe_nrm [0, 1, 2] rfl r9
set_option maxRecDepth 100000 in
theorem pt_X13_ledgerLine_1 {I I1 I2 : Nat → Nat → Int32} {L L1 L2 : Nat → Nat → Int64} {r1 : Int32} (c1 : fx_X13_deedOf [.ref 18] (I, L) (some (.int r1)) (I1, L1)) (h1 : (xe_cmp .ge r1 0) = false) (c2 : fx_X13_looksAt [.int (I1 20 0), .int (0 : Int32), .ref 18] (I1, L1) (some (.int 1)) (I2, L2)) {v9 : Option Value} {hp9 : xe_H} (r9 : ∃ n, xr_X13_ledgerLine n (32, [(0, .ref 18), (1, .int ((4 : Int32) * (I 18 34))), (2, .int r1)], [], (I2, L2)) v9 hp9) : ∃ n, xr_X13_ledgerLine n (0, [(0, .ref 18)], [], (I, L)) v9 hp9 := by
  refine xe_go 5 (s' := (8, [(0, .ref 18), (1, .int ((4 : Int32) * (I 18 34)))], [.ref 18], (I, L))) rfl ?_
  refine xe_vir (n := 1) (f := fx_X13_deedOf) rfl (Nat.le_of_ble_eq_true rfl) (List.mem_of_getElem? (i := 0) rfl) (Nat.le_of_ble_eq_true rfl) c1 ?_
  refine xe_bF 2 (A := (32, [(0, .ref 18), (1, .int ((4 : Int32) * (I 18 34))), (2, .int r1)], [], (I1, L1))) (B := (16, [(0, .ref 18), (1, .int ((4 : Int32) * (I 18 34))), (2, .int r1)], [], (I1, L1))) h1 rfl ?_
  refine xe_go 5 (s' := (24, [(0, .ref 18), (1, .int ((4 : Int32) * (I 18 34))), (2, .int r1)], [.int (I1 20 0), .int (0 : Int32), .ref 18], (I1, L1))) rfl ?_
  refine xe_vir (n := 3) (f := fx_X13_looksAt) rfl (Nat.le_of_ble_eq_true rfl) (List.mem_of_getElem? (i := 1) rfl) (Nat.le_of_ble_eq_true rfl) c2 ?_
  refine xe_go 0 (s' := (32, [(0, .ref 18), (1, .int ((4 : Int32) * (I 18 34))), (2, .int r1)], [], (I2, L2))) rfl ?_
  exact xe_nrm [0, 1, 2] rfl r9
set_option maxRecDepth 100000 in
theorem pt_X13_ledgerLine_2 {I I1 I2 : Nat → Nat → Int32} {L L1 L2 : Nat → Nat → Int64} {r1 : Int32} (c1 : fx_X13_deedOf [.ref 18] (I, L) (some (.int r1)) (I1, L1)) (h1 : (xe_cmp .ge r1 0) = false) (c2 : fx_X13_looksAt [.int (I1 20 0), .int (0 : Int32), .ref 18] (I1, L1) (some (.int 0)) (I2, L2)) : ∃ n, xr_X13_ledgerLine n (0, [(0, .ref 18)], [], (I, L)) (some (.int (0 : Int32))) (I2, L2) := by
  refine xe_go 5 (s' := (8, [(0, .ref 18), (1, .int ((4 : Int32) * (I 18 34)))], [.ref 18], (I, L))) rfl ?_
  refine xe_vir (n := 1) (f := fx_X13_deedOf) rfl (Nat.le_of_ble_eq_true rfl) (List.mem_of_getElem? (i := 0) rfl) (Nat.le_of_ble_eq_true rfl) c1 ?_
  refine xe_bF 2 (A := (32, [(0, .ref 18), (1, .int ((4 : Int32) * (I 18 34))), (2, .int r1)], [], (I1, L1))) (B := (16, [(0, .ref 18), (1, .int ((4 : Int32) * (I 18 34))), (2, .int r1)], [], (I1, L1))) h1 rfl ?_
  refine xe_go 5 (s' := (24, [(0, .ref 18), (1, .int ((4 : Int32) * (I 18 34))), (2, .int r1)], [.int (I1 20 0), .int (0 : Int32), .ref 18], (I1, L1))) rfl ?_
  refine xe_vir (n := 3) (f := fx_X13_looksAt) rfl (Nat.le_of_ble_eq_true rfl) (List.mem_of_getElem? (i := 1) rfl) (Nat.le_of_ble_eq_true rfl) c2 ?_
  refine xe_go 1 (s' := (31, [(0, .ref 18), (1, .int ((4 : Int32) * (I 18 34))), (2, .int r1)], [.int (0 : Int32)], (I2, L2))) rfl ?_
  exact xe_end rfl rfl rfl
set_option maxRecDepth 100000 in
theorem pt_X13_ledgerLine_3 {l1 l2 : Int32} {I I1 : Nat → Nat → Int32} {L L1 : Nat → Nat → Int64} (h1 : (xe_cmp .ne (I 18 34) (40 : Int32)) = true) (h2 : xe_ib (l1 + (3 : Int32)) 160 = true) (c1 : fx_X13_next [.ref 18] ((xu I 22 (((l1 + (3 : Int32))).toInt.toNat) (I 18 18)), L) none (I1, L1)) (h3 : (xe_cmp .ge l2 0) = true) {v9 : Option Value} {hp9 : xe_H} (r9 : ∃ n, xr_X13_ledgerLine n (111, [(0, .ref 18), (1, .int l1), (2, .int l2)], [], (I1, L1)) v9 hp9) : ∃ n, xr_X13_ledgerLine n (32, [(0, .ref 18), (1, .int l1), (2, .int l2)], [], (I, L)) v9 hp9 := by
  refine xe_bT 3 (A := (47, [(0, .ref 18), (1, .int l1), (2, .int l2)], [], (I, L))) (B := (41, [(0, .ref 18), (1, .int l1), (2, .int l2)], [], (I, L))) h1 rfl ?_
  refine xe_ar 7 (A := (59, [(0, .ref 18), (1, .int l1), (2, .int l2)], [], ((xu I 22 (((l1 + (3 : Int32))).toInt.toNat) (I 18 18)), L))) h2 rfl ?_
  refine xe_go 0 (s' := (60, [(0, .ref 18), (1, .int l1), (2, .int l2)], [.ref 18], ((xu I 22 (((l1 + (3 : Int32))).toInt.toNat) (I 18 18)), L))) rfl ?_
  refine xe_vir (n := 1) (f := fx_X13_next) rfl (Nat.le_of_ble_eq_true rfl) (List.mem_of_getElem? (i := 3) rfl) (Nat.le_of_ble_eq_true rfl) c1 ?_
  refine xe_bT 1 (A := (111, [(0, .ref 18), (1, .int l1), (2, .int l2)], [], (I1, L1))) (B := (67, [(0, .ref 18), (1, .int l1), (2, .int l2)], [], (I1, L1))) h3 rfl ?_
  exact xe_nrm [0, 1, 2] rfl r9
set_option maxRecDepth 100000 in
theorem pt_X13_ledgerLine_4 {l1 l2 : Int32} {I I1 I2 : Nat → Nat → Int32} {L L1 L2 : Nat → Nat → Int64} (h1 : (xe_cmp .ne (I 18 34) (40 : Int32)) = true) (h2 : xe_ib (l1 + (3 : Int32)) 160 = true) (c1 : fx_X13_next [.ref 18] ((xu I 22 (((l1 + (3 : Int32))).toInt.toNat) (I 18 18)), L) none (I1, L1)) (h3 : (xe_cmp .ge l2 0) = false) (c2 : fx_X13_isWord [.long (1885436275 : Int64), .ref 18] (I1, L1) (some (.int 1)) (I2, L2)) {v9 : Option Value} {hp9 : xe_H} (r9 : ∃ n, xr_X13_ledgerLine n (96, [(0, .ref 18), (1, .int l1), (2, .int l2)], [.int (0 : Int32)], (I2, L2)) v9 hp9) : ∃ n, xr_X13_ledgerLine n (32, [(0, .ref 18), (1, .int l1), (2, .int l2)], [], (I, L)) v9 hp9 := by
  refine xe_bT 3 (A := (47, [(0, .ref 18), (1, .int l1), (2, .int l2)], [], (I, L))) (B := (41, [(0, .ref 18), (1, .int l1), (2, .int l2)], [], (I, L))) h1 rfl ?_
  refine xe_ar 7 (A := (59, [(0, .ref 18), (1, .int l1), (2, .int l2)], [], ((xu I 22 (((l1 + (3 : Int32))).toInt.toNat) (I 18 18)), L))) h2 rfl ?_
  refine xe_go 0 (s' := (60, [(0, .ref 18), (1, .int l1), (2, .int l2)], [.ref 18], ((xu I 22 (((l1 + (3 : Int32))).toInt.toNat) (I 18 18)), L))) rfl ?_
  refine xe_vir (n := 1) (f := fx_X13_next) rfl (Nat.le_of_ble_eq_true rfl) (List.mem_of_getElem? (i := 3) rfl) (Nat.le_of_ble_eq_true rfl) c1 ?_
  refine xe_bF 1 (A := (111, [(0, .ref 18), (1, .int l1), (2, .int l2)], [], (I1, L1))) (B := (67, [(0, .ref 18), (1, .int l1), (2, .int l2)], [], (I1, L1))) h3 rfl ?_
  refine xe_go 1 (s' := (71, [(0, .ref 18), (1, .int l1), (2, .int l2)], [.long (1885436275 : Int64), .ref 18], (I1, L1))) rfl ?_
  refine xe_vir (n := 2) (f := fx_X13_isWord) rfl (Nat.le_of_ble_eq_true rfl) (List.mem_of_getElem? (i := 4) rfl) (Nat.le_of_ble_eq_true rfl) c2 ?_
  refine xe_go 2 (s' := (96, [(0, .ref 18), (1, .int l1), (2, .int l2)], [.int (0 : Int32)], (I2, L2))) rfl ?_
  exact xe_nrm [0, 1, 2] rfl r9
set_option maxRecDepth 100000 in
theorem pt_X13_ledgerLine_5 {l1 l2 : Int32} {I I1 I2 I3 : Nat → Nat → Int32} {L L1 L2 L3 : Nat → Nat → Int64} (h1 : (xe_cmp .ne (I 18 34) (40 : Int32)) = true) (h2 : xe_ib (l1 + (3 : Int32)) 160 = true) (c1 : fx_X13_next [.ref 18] ((xu I 22 (((l1 + (3 : Int32))).toInt.toNat) (I 18 18)), L) none (I1, L1)) (h3 : (xe_cmp .ge l2 0) = false) (c2 : fx_X13_isWord [.long (1885436275 : Int64), .ref 18] (I1, L1) (some (.int 0)) (I2, L2)) (c3 : fx_X13_isWord [.long (109317276394099 : Int64), .ref 18] (I2, L2) (some (.int 1)) (I3, L3)) {v9 : Option Value} {hp9 : xe_H} (r9 : ∃ n, xr_X13_ledgerLine n (96, [(0, .ref 18), (1, .int l1), (2, .int l2)], [.int (3 : Int32)], (I3, L3)) v9 hp9) : ∃ n, xr_X13_ledgerLine n (32, [(0, .ref 18), (1, .int l1), (2, .int l2)], [], (I, L)) v9 hp9 := by
  refine xe_bT 3 (A := (47, [(0, .ref 18), (1, .int l1), (2, .int l2)], [], (I, L))) (B := (41, [(0, .ref 18), (1, .int l1), (2, .int l2)], [], (I, L))) h1 rfl ?_
  refine xe_ar 7 (A := (59, [(0, .ref 18), (1, .int l1), (2, .int l2)], [], ((xu I 22 (((l1 + (3 : Int32))).toInt.toNat) (I 18 18)), L))) h2 rfl ?_
  refine xe_go 0 (s' := (60, [(0, .ref 18), (1, .int l1), (2, .int l2)], [.ref 18], ((xu I 22 (((l1 + (3 : Int32))).toInt.toNat) (I 18 18)), L))) rfl ?_
  refine xe_vir (n := 1) (f := fx_X13_next) rfl (Nat.le_of_ble_eq_true rfl) (List.mem_of_getElem? (i := 3) rfl) (Nat.le_of_ble_eq_true rfl) c1 ?_
  refine xe_bF 1 (A := (111, [(0, .ref 18), (1, .int l1), (2, .int l2)], [], (I1, L1))) (B := (67, [(0, .ref 18), (1, .int l1), (2, .int l2)], [], (I1, L1))) h3 rfl ?_
  refine xe_go 1 (s' := (71, [(0, .ref 18), (1, .int l1), (2, .int l2)], [.long (1885436275 : Int64), .ref 18], (I1, L1))) rfl ?_
  refine xe_vir (n := 2) (f := fx_X13_isWord) rfl (Nat.le_of_ble_eq_true rfl) (List.mem_of_getElem? (i := 4) rfl) (Nat.le_of_ble_eq_true rfl) c2 ?_
  refine xe_go 2 (s' := (85, [(0, .ref 18), (1, .int l1), (2, .int l2)], [.long (109317276394099 : Int64), .ref 18], (I2, L2))) rfl ?_
  refine xe_vir (n := 2) (f := fx_X13_isWord) rfl (Nat.le_of_ble_eq_true rfl) (List.mem_of_getElem? (i := 4) rfl) (Nat.le_of_ble_eq_true rfl) c3 ?_
  refine xe_go 2 (s' := (96, [(0, .ref 18), (1, .int l1), (2, .int l2)], [.int (3 : Int32)], (I3, L3))) rfl ?_
  exact xe_nrm [0, 1, 2] rfl r9
set_option maxRecDepth 100000 in
theorem pt_X13_ledgerLine_6 {l1 l2 : Int32} {I I1 I2 I3 : Nat → Nat → Int32} {L L1 L2 L3 : Nat → Nat → Int64} (h1 : (xe_cmp .ne (I 18 34) (40 : Int32)) = true) (h2 : xe_ib (l1 + (3 : Int32)) 160 = true) (c1 : fx_X13_next [.ref 18] ((xu I 22 (((l1 + (3 : Int32))).toInt.toNat) (I 18 18)), L) none (I1, L1)) (h3 : (xe_cmp .ge l2 0) = false) (c2 : fx_X13_isWord [.long (1885436275 : Int64), .ref 18] (I1, L1) (some (.int 0)) (I2, L2)) (c3 : fx_X13_isWord [.long (109317276394099 : Int64), .ref 18] (I2, L2) (some (.int 0)) (I3, L3)) {v9 : Option Value} {hp9 : xe_H} (r9 : ∃ n, xr_X13_ledgerLine n (96, [(0, .ref 18), (1, .int l1), (2, .int l2)], [.int (Int32.ofInt (-1))], (I3, L3)) v9 hp9) : ∃ n, xr_X13_ledgerLine n (32, [(0, .ref 18), (1, .int l1), (2, .int l2)], [], (I, L)) v9 hp9 := by
  refine xe_bT 3 (A := (47, [(0, .ref 18), (1, .int l1), (2, .int l2)], [], (I, L))) (B := (41, [(0, .ref 18), (1, .int l1), (2, .int l2)], [], (I, L))) h1 rfl ?_
  refine xe_ar 7 (A := (59, [(0, .ref 18), (1, .int l1), (2, .int l2)], [], ((xu I 22 (((l1 + (3 : Int32))).toInt.toNat) (I 18 18)), L))) h2 rfl ?_
  refine xe_go 0 (s' := (60, [(0, .ref 18), (1, .int l1), (2, .int l2)], [.ref 18], ((xu I 22 (((l1 + (3 : Int32))).toInt.toNat) (I 18 18)), L))) rfl ?_
  refine xe_vir (n := 1) (f := fx_X13_next) rfl (Nat.le_of_ble_eq_true rfl) (List.mem_of_getElem? (i := 3) rfl) (Nat.le_of_ble_eq_true rfl) c1 ?_
  refine xe_bF 1 (A := (111, [(0, .ref 18), (1, .int l1), (2, .int l2)], [], (I1, L1))) (B := (67, [(0, .ref 18), (1, .int l1), (2, .int l2)], [], (I1, L1))) h3 rfl ?_
  refine xe_go 1 (s' := (71, [(0, .ref 18), (1, .int l1), (2, .int l2)], [.long (1885436275 : Int64), .ref 18], (I1, L1))) rfl ?_
  refine xe_vir (n := 2) (f := fx_X13_isWord) rfl (Nat.le_of_ble_eq_true rfl) (List.mem_of_getElem? (i := 4) rfl) (Nat.le_of_ble_eq_true rfl) c2 ?_
  refine xe_go 2 (s' := (85, [(0, .ref 18), (1, .int l1), (2, .int l2)], [.long (109317276394099 : Int64), .ref 18], (I2, L2))) rfl ?_
  refine xe_vir (n := 2) (f := fx_X13_isWord) rfl (Nat.le_of_ble_eq_true rfl) (List.mem_of_getElem? (i := 4) rfl) (Nat.le_of_ble_eq_true rfl) c3 ?_
  refine xe_go 1 (s' := (96, [(0, .ref 18), (1, .int l1), (2, .int l2)], [.int (Int32.ofInt (-1))], (I3, L3))) rfl ?_
  exact xe_nrm [0, 1, 2] rfl r9
set_option maxRecDepth 100000 in
theorem pt_X13_ledgerLine_7 {l1 l2 : Int32} {I I1 : Nat → Nat → Int32} {L L1 : Nat → Nat → Int64} (h1 : (xe_cmp .ne (I 18 34) (40 : Int32)) = false) (c1 : fx_X13_bad [.int (4 : Int32), .ref 18] (I, L) (some (.int 0)) (I1, L1)) : ∃ n, xr_X13_ledgerLine n (32, [(0, .ref 18), (1, .int l1), (2, .int l2)], [], (I, L)) (some (.int 0)) (I1, L1) := by
  refine xe_bF 3 (A := (47, [(0, .ref 18), (1, .int l1), (2, .int l2)], [], (I, L))) (B := (41, [(0, .ref 18), (1, .int l1), (2, .int l2)], [], (I, L))) h1 rfl ?_
  refine xe_go 1 (s' := (43, [(0, .ref 18), (1, .int l1), (2, .int l2)], [.int (4 : Int32), .ref 18], (I, L))) rfl ?_
  refine xe_vir (n := 2) (f := fx_X13_bad) rfl (Nat.le_of_ble_eq_true rfl) (List.mem_of_getElem? (i := 2) rfl) (Nat.le_of_ble_eq_true rfl) c1 ?_
  exact xe_end rfl rfl rfl
set_option maxRecDepth 100000 in
theorem pt_X13_ledgerLine_8 {l1 l2 : Int32} {I : Nat → Nat → Int32} {L : Nat → Nat → Int64} (h1 : xe_ib l1 160 = true) (h2 : (xe_cmp .ne l2 (6 : Int32)) = true) (h3 : (xe_cmp .ne l2 (7 : Int32)) = true) {v9 : Option Value} {hp9 : xe_H} (r9 : ∃ n, xr_X13_ledgerLine n (141, [(0, .ref 18), (1, .int l1), (2, .int l2)], [.int (15 : Int32), .int (0 : Int32), .ref 18], ((xu I 22 ((l1).toInt.toNat) l2), L)) v9 hp9) : ∃ n, xr_X13_ledgerLine n (111, [(0, .ref 18), (1, .int l1), (2, .int l2)], [], (I, L)) v9 hp9 := by
  refine xe_ar 4 (A := (118, [(0, .ref 18), (1, .int l1), (2, .int l2)], [], ((xu I 22 ((l1).toInt.toNat) l2), L))) h1 rfl ?_
  refine xe_bT 2 (A := (126, [(0, .ref 18), (1, .int l1), (2, .int l2)], [], ((xu I 22 ((l1).toInt.toNat) l2), L))) (B := (124, [(0, .ref 18), (1, .int l1), (2, .int l2)], [], ((xu I 22 ((l1).toInt.toNat) l2), L))) h2 rfl ?_
  refine xe_bT 4 (A := (139, [(0, .ref 18), (1, .int l1), (2, .int l2)], [.int (0 : Int32), .ref 18], ((xu I 22 ((l1).toInt.toNat) l2), L))) (B := (134, [(0, .ref 18), (1, .int l1), (2, .int l2)], [.int (0 : Int32), .ref 18], ((xu I 22 ((l1).toInt.toNat) l2), L))) h3 rfl ?_
  refine xe_go 0 (s' := (141, [(0, .ref 18), (1, .int l1), (2, .int l2)], [.int (15 : Int32), .int (0 : Int32), .ref 18], ((xu I 22 ((l1).toInt.toNat) l2), L))) rfl ?_
  exact xe_nrm [0, 1, 2] rfl r9
set_option maxRecDepth 100000 in
theorem pt_X13_ledgerLine_9 {l1 l2 : Int32} {I : Nat → Nat → Int32} {L : Nat → Nat → Int64} (h1 : xe_ib l1 160 = true) (h2 : (xe_cmp .ne l2 (6 : Int32)) = true) (h3 : (xe_cmp .ne l2 (7 : Int32)) = false) {v9 : Option Value} {hp9 : xe_H} (r9 : ∃ n, xr_X13_ledgerLine n (141, [(0, .ref 18), (1, .int l1), (2, .int l2)], [.int (99 : Int32), .int (0 : Int32), .ref 18], ((xu I 22 ((l1).toInt.toNat) l2), L)) v9 hp9) : ∃ n, xr_X13_ledgerLine n (111, [(0, .ref 18), (1, .int l1), (2, .int l2)], [], (I, L)) v9 hp9 := by
  refine xe_ar 4 (A := (118, [(0, .ref 18), (1, .int l1), (2, .int l2)], [], ((xu I 22 ((l1).toInt.toNat) l2), L))) h1 rfl ?_
  refine xe_bT 2 (A := (126, [(0, .ref 18), (1, .int l1), (2, .int l2)], [], ((xu I 22 ((l1).toInt.toNat) l2), L))) (B := (124, [(0, .ref 18), (1, .int l1), (2, .int l2)], [], ((xu I 22 ((l1).toInt.toNat) l2), L))) h2 rfl ?_
  refine xe_bF 4 (A := (139, [(0, .ref 18), (1, .int l1), (2, .int l2)], [.int (0 : Int32), .ref 18], ((xu I 22 ((l1).toInt.toNat) l2), L))) (B := (134, [(0, .ref 18), (1, .int l1), (2, .int l2)], [.int (0 : Int32), .ref 18], ((xu I 22 ((l1).toInt.toNat) l2), L))) h3 rfl ?_
  refine xe_go 1 (s' := (141, [(0, .ref 18), (1, .int l1), (2, .int l2)], [.int (99 : Int32), .int (0 : Int32), .ref 18], ((xu I 22 ((l1).toInt.toNat) l2), L))) rfl ?_
  exact xe_nrm [0, 1, 2] rfl r9
set_option maxRecDepth 100000 in
theorem pt_X13_ledgerLine_10 {l1 l2 : Int32} {I : Nat → Nat → Int32} {L : Nat → Nat → Int64} (h1 : xe_ib l1 160 = true) (h2 : (xe_cmp .ne l2 (6 : Int32)) = false) : ∃ n, xr_X13_ledgerLine n (111, [(0, .ref 18), (1, .int l1), (2, .int l2)], [], (I, L)) (some (.int (1 : Int32))) ((xu I 22 ((l1).toInt.toNat) l2), L) := by
  refine xe_ar 4 (A := (118, [(0, .ref 18), (1, .int l1), (2, .int l2)], [], ((xu I 22 ((l1).toInt.toNat) l2), L))) h1 rfl ?_
  refine xe_bF 2 (A := (126, [(0, .ref 18), (1, .int l1), (2, .int l2)], [], ((xu I 22 ((l1).toInt.toNat) l2), L))) (B := (124, [(0, .ref 18), (1, .int l1), (2, .int l2)], [], ((xu I 22 ((l1).toInt.toNat) l2), L))) h2 rfl ?_
  refine xe_go 0 (s' := (125, [(0, .ref 18), (1, .int l1), (2, .int l2)], [.int (1 : Int32)], ((xu I 22 ((l1).toInt.toNat) l2), L))) rfl ?_
  exact xe_end rfl rfl rfl
set_option maxRecDepth 100000 in
theorem pt_X13_ledgerLine_11 {l1 l2 s0 : Int32} {I I1 : Nat → Nat → Int32} {L L1 : Nat → Nat → Int64} (h1 : (xe_cmp .ge s0 0) = true) (c1 : fx_X13_next [.ref 18] (I, L) none (I1, L1)) {v9 : Option Value} {hp9 : xe_H} (r9 : ∃ n, xr_X13_ledgerLine n (111, [(0, .ref 18), (1, .int l1), (2, .int s0)], [], (I1, L1)) v9 hp9) : ∃ n, xr_X13_ledgerLine n (96, [(0, .ref 18), (1, .int l1), (2, .int l2)], [.int s0], (I, L)) v9 hp9 := by
  refine xe_bT 2 (A := (107, [(0, .ref 18), (1, .int l1), (2, .int s0)], [], (I, L))) (B := (101, [(0, .ref 18), (1, .int l1), (2, .int s0)], [], (I, L))) h1 rfl ?_
  refine xe_go 0 (s' := (108, [(0, .ref 18), (1, .int l1), (2, .int s0)], [.ref 18], (I, L))) rfl ?_
  refine xe_vir (n := 1) (f := fx_X13_next) rfl (Nat.le_of_ble_eq_true rfl) (List.mem_of_getElem? (i := 3) rfl) (Nat.le_of_ble_eq_true rfl) c1 ?_
  exact xe_nrm [0, 1, 2] rfl r9
set_option maxRecDepth 100000 in
theorem pt_X13_ledgerLine_12 {l1 l2 s0 : Int32} {I I1 : Nat → Nat → Int32} {L L1 : Nat → Nat → Int64} (h1 : (xe_cmp .ge s0 0) = false) (c1 : fx_X13_bad [.int (1 : Int32), .ref 18] (I, L) (some (.int 0)) (I1, L1)) : ∃ n, xr_X13_ledgerLine n (96, [(0, .ref 18), (1, .int l1), (2, .int l2)], [.int s0], (I, L)) (some (.int 0)) (I1, L1) := by
  refine xe_bF 2 (A := (107, [(0, .ref 18), (1, .int l1), (2, .int s0)], [], (I, L))) (B := (101, [(0, .ref 18), (1, .int l1), (2, .int s0)], [], (I, L))) h1 rfl ?_
  refine xe_go 1 (s' := (103, [(0, .ref 18), (1, .int l1), (2, .int s0)], [.int (1 : Int32), .ref 18], (I, L))) rfl ?_
  refine xe_vir (n := 2) (f := fx_X13_bad) rfl (Nat.le_of_ble_eq_true rfl) (List.mem_of_getElem? (i := 2) rfl) (Nat.le_of_ble_eq_true rfl) c1 ?_
  exact xe_end rfl rfl rfl
set_option maxRecDepth 100000 in
theorem pt_X13_ledgerLine_13 {l1 l2 s0 s1 : Int32} {I I1 : Nat → Nat → Int32} {L L1 : Nat → Nat → Int64} (c1 : fx_X13_takes [.int s0, .int s1, .ref 18] (I, L) (some (.int 1)) (I1, L1)) (h1 : xe_ib (l1 + (1 : Int32)) 160 = true) (h2 : (xe_cmp .eq l2 (3 : Int32)) = true) : ∃ n, xr_X13_ledgerLine n (141, [(0, .ref 18), (1, .int l1), (2, .int l2)], [.int s0, .int s1, .ref 18], (I, L)) (some (.int (1 : Int32))) ((xu I1 22 (((l1 + (1 : Int32))).toInt.toNat) (I1 18 18)), L1) := by
  refine xe_vir (n := 3) (f := fx_X13_takes) rfl (Nat.le_of_ble_eq_true rfl) (List.mem_of_getElem? (i := 5) rfl) (Nat.le_of_ble_eq_true rfl) c1 ?_
  refine xe_ar 8 (A := (161, [(0, .ref 18), (1, .int l1), (2, .int l2)], [], ((xu I1 22 (((l1 + (1 : Int32))).toInt.toNat) (I1 18 18)), L1))) h1 rfl ?_
  refine xe_bT 2 (A := (177, [(0, .ref 18), (1, .int l1), (2, .int l2)], [], ((xu I1 22 (((l1 + (1 : Int32))).toInt.toNat) (I1 18 18)), L1))) (B := (166, [(0, .ref 18), (1, .int l1), (2, .int l2)], [], ((xu I1 22 (((l1 + (1 : Int32))).toInt.toNat) (I1 18 18)), L1))) h2 rfl ?_
  refine xe_go 0 (s' := (178, [(0, .ref 18), (1, .int l1), (2, .int l2)], [.int (1 : Int32)], ((xu I1 22 (((l1 + (1 : Int32))).toInt.toNat) (I1 18 18)), L1))) rfl ?_
  exact xe_end rfl rfl rfl
set_option maxRecDepth 100000 in
theorem pt_X13_ledgerLine_14 {l1 l2 s0 s1 : Int32} {I I1 : Nat → Nat → Int32} {L L1 : Nat → Nat → Int64} (c1 : fx_X13_takes [.int s0, .int s1, .ref 18] (I, L) (some (.int 1)) (I1, L1)) (h1 : xe_ib (l1 + (1 : Int32)) 160 = true) (h2 : (xe_cmp .eq l2 (3 : Int32)) = false) (h3 : (xe_cmp .eq l2 (4 : Int32)) = true) : ∃ n, xr_X13_ledgerLine n (141, [(0, .ref 18), (1, .int l1), (2, .int l2)], [.int s0, .int s1, .ref 18], (I, L)) (some (.int (1 : Int32))) ((xu I1 22 (((l1 + (1 : Int32))).toInt.toNat) (I1 18 18)), L1) := by
  refine xe_vir (n := 3) (f := fx_X13_takes) rfl (Nat.le_of_ble_eq_true rfl) (List.mem_of_getElem? (i := 5) rfl) (Nat.le_of_ble_eq_true rfl) c1 ?_
  refine xe_ar 8 (A := (161, [(0, .ref 18), (1, .int l1), (2, .int l2)], [], ((xu I1 22 (((l1 + (1 : Int32))).toInt.toNat) (I1 18 18)), L1))) h1 rfl ?_
  refine xe_bF 2 (A := (177, [(0, .ref 18), (1, .int l1), (2, .int l2)], [], ((xu I1 22 (((l1 + (1 : Int32))).toInt.toNat) (I1 18 18)), L1))) (B := (166, [(0, .ref 18), (1, .int l1), (2, .int l2)], [], ((xu I1 22 (((l1 + (1 : Int32))).toInt.toNat) (I1 18 18)), L1))) h2 rfl ?_
  refine xe_bT 2 (A := (177, [(0, .ref 18), (1, .int l1), (2, .int l2)], [], ((xu I1 22 (((l1 + (1 : Int32))).toInt.toNat) (I1 18 18)), L1))) (B := (171, [(0, .ref 18), (1, .int l1), (2, .int l2)], [], ((xu I1 22 (((l1 + (1 : Int32))).toInt.toNat) (I1 18 18)), L1))) h3 rfl ?_
  refine xe_go 0 (s' := (178, [(0, .ref 18), (1, .int l1), (2, .int l2)], [.int (1 : Int32)], ((xu I1 22 (((l1 + (1 : Int32))).toInt.toNat) (I1 18 18)), L1))) rfl ?_
  exact xe_end rfl rfl rfl
set_option maxRecDepth 100000 in
theorem pt_X13_ledgerLine_15 {l1 l2 s0 s1 : Int32} {I I1 I2 : Nat → Nat → Int32} {L L1 L2 : Nat → Nat → Int64} (c1 : fx_X13_takes [.int s0, .int s1, .ref 18] (I, L) (some (.int 1)) (I1, L1)) (h1 : xe_ib (l1 + (1 : Int32)) 160 = true) (h2 : (xe_cmp .eq l2 (3 : Int32)) = false) (h3 : (xe_cmp .eq l2 (4 : Int32)) = false) (h4 : (xe_cmp .ne l2 (7 : Int32)) = true) (h5 : (xe_cmp .ne l2 0) = true) (h6 : (xe_cmp .ne l2 (2 : Int32)) = true) (c2 : fx_X13_takes [.int (31 : Int32), .int (0 : Int32), .ref 18] ((xu I1 22 (((l1 + (1 : Int32))).toInt.toNat) (I1 18 18)), L1) (some (.int 1)) (I2, L2)) {v9 : Option Value} {hp9 : xe_H} (r9 : ∃ n, xr_X13_ledgerLine n (221, [(0, .ref 18), (1, .int l1), (2, .int l2)], [], (I2, L2)) v9 hp9) : ∃ n, xr_X13_ledgerLine n (141, [(0, .ref 18), (1, .int l1), (2, .int l2)], [.int s0, .int s1, .ref 18], (I, L)) v9 hp9 := by
  refine xe_vir (n := 3) (f := fx_X13_takes) rfl (Nat.le_of_ble_eq_true rfl) (List.mem_of_getElem? (i := 5) rfl) (Nat.le_of_ble_eq_true rfl) c1 ?_
  refine xe_ar 8 (A := (161, [(0, .ref 18), (1, .int l1), (2, .int l2)], [], ((xu I1 22 (((l1 + (1 : Int32))).toInt.toNat) (I1 18 18)), L1))) h1 rfl ?_
  refine xe_bF 2 (A := (177, [(0, .ref 18), (1, .int l1), (2, .int l2)], [], ((xu I1 22 (((l1 + (1 : Int32))).toInt.toNat) (I1 18 18)), L1))) (B := (166, [(0, .ref 18), (1, .int l1), (2, .int l2)], [], ((xu I1 22 (((l1 + (1 : Int32))).toInt.toNat) (I1 18 18)), L1))) h2 rfl ?_
  refine xe_bF 2 (A := (177, [(0, .ref 18), (1, .int l1), (2, .int l2)], [], ((xu I1 22 (((l1 + (1 : Int32))).toInt.toNat) (I1 18 18)), L1))) (B := (171, [(0, .ref 18), (1, .int l1), (2, .int l2)], [], ((xu I1 22 (((l1 + (1 : Int32))).toInt.toNat) (I1 18 18)), L1))) h3 rfl ?_
  refine xe_bT 2 (A := (179, [(0, .ref 18), (1, .int l1), (2, .int l2)], [], ((xu I1 22 (((l1 + (1 : Int32))).toInt.toNat) (I1 18 18)), L1))) (B := (177, [(0, .ref 18), (1, .int l1), (2, .int l2)], [], ((xu I1 22 (((l1 + (1 : Int32))).toInt.toNat) (I1 18 18)), L1))) h4 rfl ?_
  refine xe_bT 1 (A := (199, [(0, .ref 18), (1, .int l1), (2, .int l2)], [], ((xu I1 22 (((l1 + (1 : Int32))).toInt.toNat) (I1 18 18)), L1))) (B := (183, [(0, .ref 18), (1, .int l1), (2, .int l2)], [], ((xu I1 22 (((l1 + (1 : Int32))).toInt.toNat) (I1 18 18)), L1))) h5 rfl ?_
  refine xe_bT 4 (A := (211, [(0, .ref 18), (1, .int l1), (2, .int l2)], [.int (0 : Int32), .ref 18], ((xu I1 22 (((l1 + (1 : Int32))).toInt.toNat) (I1 18 18)), L1))) (B := (206, [(0, .ref 18), (1, .int l1), (2, .int l2)], [.int (0 : Int32), .ref 18], ((xu I1 22 (((l1 + (1 : Int32))).toInt.toNat) (I1 18 18)), L1))) h6 rfl ?_
  refine xe_go 0 (s' := (213, [(0, .ref 18), (1, .int l1), (2, .int l2)], [.int (31 : Int32), .int (0 : Int32), .ref 18], ((xu I1 22 (((l1 + (1 : Int32))).toInt.toNat) (I1 18 18)), L1))) rfl ?_
  refine xe_vir (n := 3) (f := fx_X13_takes) rfl (Nat.le_of_ble_eq_true rfl) (List.mem_of_getElem? (i := 5) rfl) (Nat.le_of_ble_eq_true rfl) c2 ?_
  refine xe_go 0 (s' := (221, [(0, .ref 18), (1, .int l1), (2, .int l2)], [], (I2, L2))) rfl ?_
  exact xe_nrm [0, 1, 2] rfl r9
set_option maxRecDepth 100000 in
theorem pt_X13_ledgerLine_16 {l1 l2 s0 s1 : Int32} {I I1 I2 : Nat → Nat → Int32} {L L1 L2 : Nat → Nat → Int64} (c1 : fx_X13_takes [.int s0, .int s1, .ref 18] (I, L) (some (.int 1)) (I1, L1)) (h1 : xe_ib (l1 + (1 : Int32)) 160 = true) (h2 : (xe_cmp .eq l2 (3 : Int32)) = false) (h3 : (xe_cmp .eq l2 (4 : Int32)) = false) (h4 : (xe_cmp .ne l2 (7 : Int32)) = true) (h5 : (xe_cmp .ne l2 0) = true) (h6 : (xe_cmp .ne l2 (2 : Int32)) = true) (c2 : fx_X13_takes [.int (31 : Int32), .int (0 : Int32), .ref 18] ((xu I1 22 (((l1 + (1 : Int32))).toInt.toNat) (I1 18 18)), L1) (some (.int 0)) (I2, L2)) : ∃ n, xr_X13_ledgerLine n (141, [(0, .ref 18), (1, .int l1), (2, .int l2)], [.int s0, .int s1, .ref 18], (I, L)) (some (.int (0 : Int32))) (I2, L2) := by
  refine xe_vir (n := 3) (f := fx_X13_takes) rfl (Nat.le_of_ble_eq_true rfl) (List.mem_of_getElem? (i := 5) rfl) (Nat.le_of_ble_eq_true rfl) c1 ?_
  refine xe_ar 8 (A := (161, [(0, .ref 18), (1, .int l1), (2, .int l2)], [], ((xu I1 22 (((l1 + (1 : Int32))).toInt.toNat) (I1 18 18)), L1))) h1 rfl ?_
  refine xe_bF 2 (A := (177, [(0, .ref 18), (1, .int l1), (2, .int l2)], [], ((xu I1 22 (((l1 + (1 : Int32))).toInt.toNat) (I1 18 18)), L1))) (B := (166, [(0, .ref 18), (1, .int l1), (2, .int l2)], [], ((xu I1 22 (((l1 + (1 : Int32))).toInt.toNat) (I1 18 18)), L1))) h2 rfl ?_
  refine xe_bF 2 (A := (177, [(0, .ref 18), (1, .int l1), (2, .int l2)], [], ((xu I1 22 (((l1 + (1 : Int32))).toInt.toNat) (I1 18 18)), L1))) (B := (171, [(0, .ref 18), (1, .int l1), (2, .int l2)], [], ((xu I1 22 (((l1 + (1 : Int32))).toInt.toNat) (I1 18 18)), L1))) h3 rfl ?_
  refine xe_bT 2 (A := (179, [(0, .ref 18), (1, .int l1), (2, .int l2)], [], ((xu I1 22 (((l1 + (1 : Int32))).toInt.toNat) (I1 18 18)), L1))) (B := (177, [(0, .ref 18), (1, .int l1), (2, .int l2)], [], ((xu I1 22 (((l1 + (1 : Int32))).toInt.toNat) (I1 18 18)), L1))) h4 rfl ?_
  refine xe_bT 1 (A := (199, [(0, .ref 18), (1, .int l1), (2, .int l2)], [], ((xu I1 22 (((l1 + (1 : Int32))).toInt.toNat) (I1 18 18)), L1))) (B := (183, [(0, .ref 18), (1, .int l1), (2, .int l2)], [], ((xu I1 22 (((l1 + (1 : Int32))).toInt.toNat) (I1 18 18)), L1))) h5 rfl ?_
  refine xe_bT 4 (A := (211, [(0, .ref 18), (1, .int l1), (2, .int l2)], [.int (0 : Int32), .ref 18], ((xu I1 22 (((l1 + (1 : Int32))).toInt.toNat) (I1 18 18)), L1))) (B := (206, [(0, .ref 18), (1, .int l1), (2, .int l2)], [.int (0 : Int32), .ref 18], ((xu I1 22 (((l1 + (1 : Int32))).toInt.toNat) (I1 18 18)), L1))) h6 rfl ?_
  refine xe_go 0 (s' := (213, [(0, .ref 18), (1, .int l1), (2, .int l2)], [.int (31 : Int32), .int (0 : Int32), .ref 18], ((xu I1 22 (((l1 + (1 : Int32))).toInt.toNat) (I1 18 18)), L1))) rfl ?_
  refine xe_vir (n := 3) (f := fx_X13_takes) rfl (Nat.le_of_ble_eq_true rfl) (List.mem_of_getElem? (i := 5) rfl) (Nat.le_of_ble_eq_true rfl) c2 ?_
  refine xe_go 1 (s' := (220, [(0, .ref 18), (1, .int l1), (2, .int l2)], [.int (0 : Int32)], (I2, L2))) rfl ?_
  exact xe_end rfl rfl rfl
set_option maxRecDepth 100000 in
theorem pt_X13_ledgerLine_17 {l1 l2 s0 s1 : Int32} {I I1 I2 : Nat → Nat → Int32} {L L1 L2 : Nat → Nat → Int64} (c1 : fx_X13_takes [.int s0, .int s1, .ref 18] (I, L) (some (.int 1)) (I1, L1)) (h1 : xe_ib (l1 + (1 : Int32)) 160 = true) (h2 : (xe_cmp .eq l2 (3 : Int32)) = false) (h3 : (xe_cmp .eq l2 (4 : Int32)) = false) (h4 : (xe_cmp .ne l2 (7 : Int32)) = true) (h5 : (xe_cmp .ne l2 0) = true) (h6 : (xe_cmp .ne l2 (2 : Int32)) = false) (c2 : fx_X13_takes [.int (15 : Int32), .int (0 : Int32), .ref 18] ((xu I1 22 (((l1 + (1 : Int32))).toInt.toNat) (I1 18 18)), L1) (some (.int 1)) (I2, L2)) {v9 : Option Value} {hp9 : xe_H} (r9 : ∃ n, xr_X13_ledgerLine n (221, [(0, .ref 18), (1, .int l1), (2, .int l2)], [], (I2, L2)) v9 hp9) : ∃ n, xr_X13_ledgerLine n (141, [(0, .ref 18), (1, .int l1), (2, .int l2)], [.int s0, .int s1, .ref 18], (I, L)) v9 hp9 := by
  refine xe_vir (n := 3) (f := fx_X13_takes) rfl (Nat.le_of_ble_eq_true rfl) (List.mem_of_getElem? (i := 5) rfl) (Nat.le_of_ble_eq_true rfl) c1 ?_
  refine xe_ar 8 (A := (161, [(0, .ref 18), (1, .int l1), (2, .int l2)], [], ((xu I1 22 (((l1 + (1 : Int32))).toInt.toNat) (I1 18 18)), L1))) h1 rfl ?_
  refine xe_bF 2 (A := (177, [(0, .ref 18), (1, .int l1), (2, .int l2)], [], ((xu I1 22 (((l1 + (1 : Int32))).toInt.toNat) (I1 18 18)), L1))) (B := (166, [(0, .ref 18), (1, .int l1), (2, .int l2)], [], ((xu I1 22 (((l1 + (1 : Int32))).toInt.toNat) (I1 18 18)), L1))) h2 rfl ?_
  refine xe_bF 2 (A := (177, [(0, .ref 18), (1, .int l1), (2, .int l2)], [], ((xu I1 22 (((l1 + (1 : Int32))).toInt.toNat) (I1 18 18)), L1))) (B := (171, [(0, .ref 18), (1, .int l1), (2, .int l2)], [], ((xu I1 22 (((l1 + (1 : Int32))).toInt.toNat) (I1 18 18)), L1))) h3 rfl ?_
  refine xe_bT 2 (A := (179, [(0, .ref 18), (1, .int l1), (2, .int l2)], [], ((xu I1 22 (((l1 + (1 : Int32))).toInt.toNat) (I1 18 18)), L1))) (B := (177, [(0, .ref 18), (1, .int l1), (2, .int l2)], [], ((xu I1 22 (((l1 + (1 : Int32))).toInt.toNat) (I1 18 18)), L1))) h4 rfl ?_
  refine xe_bT 1 (A := (199, [(0, .ref 18), (1, .int l1), (2, .int l2)], [], ((xu I1 22 (((l1 + (1 : Int32))).toInt.toNat) (I1 18 18)), L1))) (B := (183, [(0, .ref 18), (1, .int l1), (2, .int l2)], [], ((xu I1 22 (((l1 + (1 : Int32))).toInt.toNat) (I1 18 18)), L1))) h5 rfl ?_
  refine xe_bF 4 (A := (211, [(0, .ref 18), (1, .int l1), (2, .int l2)], [.int (0 : Int32), .ref 18], ((xu I1 22 (((l1 + (1 : Int32))).toInt.toNat) (I1 18 18)), L1))) (B := (206, [(0, .ref 18), (1, .int l1), (2, .int l2)], [.int (0 : Int32), .ref 18], ((xu I1 22 (((l1 + (1 : Int32))).toInt.toNat) (I1 18 18)), L1))) h6 rfl ?_
  refine xe_go 1 (s' := (213, [(0, .ref 18), (1, .int l1), (2, .int l2)], [.int (15 : Int32), .int (0 : Int32), .ref 18], ((xu I1 22 (((l1 + (1 : Int32))).toInt.toNat) (I1 18 18)), L1))) rfl ?_
  refine xe_vir (n := 3) (f := fx_X13_takes) rfl (Nat.le_of_ble_eq_true rfl) (List.mem_of_getElem? (i := 5) rfl) (Nat.le_of_ble_eq_true rfl) c2 ?_
  refine xe_go 0 (s' := (221, [(0, .ref 18), (1, .int l1), (2, .int l2)], [], (I2, L2))) rfl ?_
  exact xe_nrm [0, 1, 2] rfl r9
set_option maxRecDepth 100000 in
theorem pt_X13_ledgerLine_18 {l1 l2 s0 s1 : Int32} {I I1 I2 : Nat → Nat → Int32} {L L1 L2 : Nat → Nat → Int64} (c1 : fx_X13_takes [.int s0, .int s1, .ref 18] (I, L) (some (.int 1)) (I1, L1)) (h1 : xe_ib (l1 + (1 : Int32)) 160 = true) (h2 : (xe_cmp .eq l2 (3 : Int32)) = false) (h3 : (xe_cmp .eq l2 (4 : Int32)) = false) (h4 : (xe_cmp .ne l2 (7 : Int32)) = true) (h5 : (xe_cmp .ne l2 0) = true) (h6 : (xe_cmp .ne l2 (2 : Int32)) = false) (c2 : fx_X13_takes [.int (15 : Int32), .int (0 : Int32), .ref 18] ((xu I1 22 (((l1 + (1 : Int32))).toInt.toNat) (I1 18 18)), L1) (some (.int 0)) (I2, L2)) : ∃ n, xr_X13_ledgerLine n (141, [(0, .ref 18), (1, .int l1), (2, .int l2)], [.int s0, .int s1, .ref 18], (I, L)) (some (.int (0 : Int32))) (I2, L2) := by
  refine xe_vir (n := 3) (f := fx_X13_takes) rfl (Nat.le_of_ble_eq_true rfl) (List.mem_of_getElem? (i := 5) rfl) (Nat.le_of_ble_eq_true rfl) c1 ?_
  refine xe_ar 8 (A := (161, [(0, .ref 18), (1, .int l1), (2, .int l2)], [], ((xu I1 22 (((l1 + (1 : Int32))).toInt.toNat) (I1 18 18)), L1))) h1 rfl ?_
  refine xe_bF 2 (A := (177, [(0, .ref 18), (1, .int l1), (2, .int l2)], [], ((xu I1 22 (((l1 + (1 : Int32))).toInt.toNat) (I1 18 18)), L1))) (B := (166, [(0, .ref 18), (1, .int l1), (2, .int l2)], [], ((xu I1 22 (((l1 + (1 : Int32))).toInt.toNat) (I1 18 18)), L1))) h2 rfl ?_
  refine xe_bF 2 (A := (177, [(0, .ref 18), (1, .int l1), (2, .int l2)], [], ((xu I1 22 (((l1 + (1 : Int32))).toInt.toNat) (I1 18 18)), L1))) (B := (171, [(0, .ref 18), (1, .int l1), (2, .int l2)], [], ((xu I1 22 (((l1 + (1 : Int32))).toInt.toNat) (I1 18 18)), L1))) h3 rfl ?_
  refine xe_bT 2 (A := (179, [(0, .ref 18), (1, .int l1), (2, .int l2)], [], ((xu I1 22 (((l1 + (1 : Int32))).toInt.toNat) (I1 18 18)), L1))) (B := (177, [(0, .ref 18), (1, .int l1), (2, .int l2)], [], ((xu I1 22 (((l1 + (1 : Int32))).toInt.toNat) (I1 18 18)), L1))) h4 rfl ?_
  refine xe_bT 1 (A := (199, [(0, .ref 18), (1, .int l1), (2, .int l2)], [], ((xu I1 22 (((l1 + (1 : Int32))).toInt.toNat) (I1 18 18)), L1))) (B := (183, [(0, .ref 18), (1, .int l1), (2, .int l2)], [], ((xu I1 22 (((l1 + (1 : Int32))).toInt.toNat) (I1 18 18)), L1))) h5 rfl ?_
  refine xe_bF 4 (A := (211, [(0, .ref 18), (1, .int l1), (2, .int l2)], [.int (0 : Int32), .ref 18], ((xu I1 22 (((l1 + (1 : Int32))).toInt.toNat) (I1 18 18)), L1))) (B := (206, [(0, .ref 18), (1, .int l1), (2, .int l2)], [.int (0 : Int32), .ref 18], ((xu I1 22 (((l1 + (1 : Int32))).toInt.toNat) (I1 18 18)), L1))) h6 rfl ?_
  refine xe_go 1 (s' := (213, [(0, .ref 18), (1, .int l1), (2, .int l2)], [.int (15 : Int32), .int (0 : Int32), .ref 18], ((xu I1 22 (((l1 + (1 : Int32))).toInt.toNat) (I1 18 18)), L1))) rfl ?_
  refine xe_vir (n := 3) (f := fx_X13_takes) rfl (Nat.le_of_ble_eq_true rfl) (List.mem_of_getElem? (i := 5) rfl) (Nat.le_of_ble_eq_true rfl) c2 ?_
  refine xe_go 1 (s' := (220, [(0, .ref 18), (1, .int l1), (2, .int l2)], [.int (0 : Int32)], (I2, L2))) rfl ?_
  exact xe_end rfl rfl rfl
set_option maxRecDepth 100000 in
theorem pt_X13_ledgerLine_19 {l1 l2 s0 s1 : Int32} {I I1 I2 : Nat → Nat → Int32} {L L1 L2 : Nat → Nat → Int64} (c1 : fx_X13_takes [.int s0, .int s1, .ref 18] (I, L) (some (.int 1)) (I1, L1)) (h1 : xe_ib (l1 + (1 : Int32)) 160 = true) (h2 : (xe_cmp .eq l2 (3 : Int32)) = false) (h3 : (xe_cmp .eq l2 (4 : Int32)) = false) (h4 : (xe_cmp .ne l2 (7 : Int32)) = true) (h5 : (xe_cmp .ne l2 0) = false) (c2 : fx_X13_takesName [.int (I1 20 0), .int (0 : Int32), .ref 18] ((xu I1 22 (((l1 + (1 : Int32))).toInt.toNat) (I1 18 18)), L1) (some (.int 1)) (I2, L2)) {v9 : Option Value} {hp9 : xe_H} (r9 : ∃ n, xr_X13_ledgerLine n (221, [(0, .ref 18), (1, .int l1), (2, .int l2)], [], (I2, L2)) v9 hp9) : ∃ n, xr_X13_ledgerLine n (141, [(0, .ref 18), (1, .int l1), (2, .int l2)], [.int s0, .int s1, .ref 18], (I, L)) v9 hp9 := by
  refine xe_vir (n := 3) (f := fx_X13_takes) rfl (Nat.le_of_ble_eq_true rfl) (List.mem_of_getElem? (i := 5) rfl) (Nat.le_of_ble_eq_true rfl) c1 ?_
  refine xe_ar 8 (A := (161, [(0, .ref 18), (1, .int l1), (2, .int l2)], [], ((xu I1 22 (((l1 + (1 : Int32))).toInt.toNat) (I1 18 18)), L1))) h1 rfl ?_
  refine xe_bF 2 (A := (177, [(0, .ref 18), (1, .int l1), (2, .int l2)], [], ((xu I1 22 (((l1 + (1 : Int32))).toInt.toNat) (I1 18 18)), L1))) (B := (166, [(0, .ref 18), (1, .int l1), (2, .int l2)], [], ((xu I1 22 (((l1 + (1 : Int32))).toInt.toNat) (I1 18 18)), L1))) h2 rfl ?_
  refine xe_bF 2 (A := (177, [(0, .ref 18), (1, .int l1), (2, .int l2)], [], ((xu I1 22 (((l1 + (1 : Int32))).toInt.toNat) (I1 18 18)), L1))) (B := (171, [(0, .ref 18), (1, .int l1), (2, .int l2)], [], ((xu I1 22 (((l1 + (1 : Int32))).toInt.toNat) (I1 18 18)), L1))) h3 rfl ?_
  refine xe_bT 2 (A := (179, [(0, .ref 18), (1, .int l1), (2, .int l2)], [], ((xu I1 22 (((l1 + (1 : Int32))).toInt.toNat) (I1 18 18)), L1))) (B := (177, [(0, .ref 18), (1, .int l1), (2, .int l2)], [], ((xu I1 22 (((l1 + (1 : Int32))).toInt.toNat) (I1 18 18)), L1))) h4 rfl ?_
  refine xe_bF 1 (A := (199, [(0, .ref 18), (1, .int l1), (2, .int l2)], [], ((xu I1 22 (((l1 + (1 : Int32))).toInt.toNat) (I1 18 18)), L1))) (B := (183, [(0, .ref 18), (1, .int l1), (2, .int l2)], [], ((xu I1 22 (((l1 + (1 : Int32))).toInt.toNat) (I1 18 18)), L1))) h5 rfl ?_
  refine xe_go 5 (s' := (191, [(0, .ref 18), (1, .int l1), (2, .int l2)], [.int (I1 20 0), .int (0 : Int32), .ref 18], ((xu I1 22 (((l1 + (1 : Int32))).toInt.toNat) (I1 18 18)), L1))) rfl ?_
  refine xe_vir (n := 3) (f := fx_X13_takesName) rfl (Nat.le_of_ble_eq_true rfl) (List.mem_of_getElem? (i := 6) rfl) (Nat.le_of_ble_eq_true rfl) c2 ?_
  refine xe_go 0 (s' := (221, [(0, .ref 18), (1, .int l1), (2, .int l2)], [], (I2, L2))) rfl ?_
  exact xe_nrm [0, 1, 2] rfl r9
set_option maxRecDepth 100000 in
theorem pt_X13_ledgerLine_20 {l1 l2 s0 s1 : Int32} {I I1 I2 : Nat → Nat → Int32} {L L1 L2 : Nat → Nat → Int64} (c1 : fx_X13_takes [.int s0, .int s1, .ref 18] (I, L) (some (.int 1)) (I1, L1)) (h1 : xe_ib (l1 + (1 : Int32)) 160 = true) (h2 : (xe_cmp .eq l2 (3 : Int32)) = false) (h3 : (xe_cmp .eq l2 (4 : Int32)) = false) (h4 : (xe_cmp .ne l2 (7 : Int32)) = true) (h5 : (xe_cmp .ne l2 0) = false) (c2 : fx_X13_takesName [.int (I1 20 0), .int (0 : Int32), .ref 18] ((xu I1 22 (((l1 + (1 : Int32))).toInt.toNat) (I1 18 18)), L1) (some (.int 0)) (I2, L2)) : ∃ n, xr_X13_ledgerLine n (141, [(0, .ref 18), (1, .int l1), (2, .int l2)], [.int s0, .int s1, .ref 18], (I, L)) (some (.int (0 : Int32))) (I2, L2) := by
  refine xe_vir (n := 3) (f := fx_X13_takes) rfl (Nat.le_of_ble_eq_true rfl) (List.mem_of_getElem? (i := 5) rfl) (Nat.le_of_ble_eq_true rfl) c1 ?_
  refine xe_ar 8 (A := (161, [(0, .ref 18), (1, .int l1), (2, .int l2)], [], ((xu I1 22 (((l1 + (1 : Int32))).toInt.toNat) (I1 18 18)), L1))) h1 rfl ?_
  refine xe_bF 2 (A := (177, [(0, .ref 18), (1, .int l1), (2, .int l2)], [], ((xu I1 22 (((l1 + (1 : Int32))).toInt.toNat) (I1 18 18)), L1))) (B := (166, [(0, .ref 18), (1, .int l1), (2, .int l2)], [], ((xu I1 22 (((l1 + (1 : Int32))).toInt.toNat) (I1 18 18)), L1))) h2 rfl ?_
  refine xe_bF 2 (A := (177, [(0, .ref 18), (1, .int l1), (2, .int l2)], [], ((xu I1 22 (((l1 + (1 : Int32))).toInt.toNat) (I1 18 18)), L1))) (B := (171, [(0, .ref 18), (1, .int l1), (2, .int l2)], [], ((xu I1 22 (((l1 + (1 : Int32))).toInt.toNat) (I1 18 18)), L1))) h3 rfl ?_
  refine xe_bT 2 (A := (179, [(0, .ref 18), (1, .int l1), (2, .int l2)], [], ((xu I1 22 (((l1 + (1 : Int32))).toInt.toNat) (I1 18 18)), L1))) (B := (177, [(0, .ref 18), (1, .int l1), (2, .int l2)], [], ((xu I1 22 (((l1 + (1 : Int32))).toInt.toNat) (I1 18 18)), L1))) h4 rfl ?_
  refine xe_bF 1 (A := (199, [(0, .ref 18), (1, .int l1), (2, .int l2)], [], ((xu I1 22 (((l1 + (1 : Int32))).toInt.toNat) (I1 18 18)), L1))) (B := (183, [(0, .ref 18), (1, .int l1), (2, .int l2)], [], ((xu I1 22 (((l1 + (1 : Int32))).toInt.toNat) (I1 18 18)), L1))) h5 rfl ?_
  refine xe_go 5 (s' := (191, [(0, .ref 18), (1, .int l1), (2, .int l2)], [.int (I1 20 0), .int (0 : Int32), .ref 18], ((xu I1 22 (((l1 + (1 : Int32))).toInt.toNat) (I1 18 18)), L1))) rfl ?_
  refine xe_vir (n := 3) (f := fx_X13_takesName) rfl (Nat.le_of_ble_eq_true rfl) (List.mem_of_getElem? (i := 6) rfl) (Nat.le_of_ble_eq_true rfl) c2 ?_
  refine xe_go 1 (s' := (198, [(0, .ref 18), (1, .int l1), (2, .int l2)], [.int (0 : Int32)], (I2, L2))) rfl ?_
  exact xe_end rfl rfl rfl
set_option maxRecDepth 100000 in
theorem pt_X13_ledgerLine_21 {l1 l2 s0 s1 : Int32} {I I1 : Nat → Nat → Int32} {L L1 : Nat → Nat → Int64} (c1 : fx_X13_takes [.int s0, .int s1, .ref 18] (I, L) (some (.int 1)) (I1, L1)) (h1 : xe_ib (l1 + (1 : Int32)) 160 = true) (h2 : (xe_cmp .eq l2 (3 : Int32)) = false) (h3 : (xe_cmp .eq l2 (4 : Int32)) = false) (h4 : (xe_cmp .ne l2 (7 : Int32)) = false) : ∃ n, xr_X13_ledgerLine n (141, [(0, .ref 18), (1, .int l1), (2, .int l2)], [.int s0, .int s1, .ref 18], (I, L)) (some (.int (1 : Int32))) ((xu I1 22 (((l1 + (1 : Int32))).toInt.toNat) (I1 18 18)), L1) := by
  refine xe_vir (n := 3) (f := fx_X13_takes) rfl (Nat.le_of_ble_eq_true rfl) (List.mem_of_getElem? (i := 5) rfl) (Nat.le_of_ble_eq_true rfl) c1 ?_
  refine xe_ar 8 (A := (161, [(0, .ref 18), (1, .int l1), (2, .int l2)], [], ((xu I1 22 (((l1 + (1 : Int32))).toInt.toNat) (I1 18 18)), L1))) h1 rfl ?_
  refine xe_bF 2 (A := (177, [(0, .ref 18), (1, .int l1), (2, .int l2)], [], ((xu I1 22 (((l1 + (1 : Int32))).toInt.toNat) (I1 18 18)), L1))) (B := (166, [(0, .ref 18), (1, .int l1), (2, .int l2)], [], ((xu I1 22 (((l1 + (1 : Int32))).toInt.toNat) (I1 18 18)), L1))) h2 rfl ?_
  refine xe_bF 2 (A := (177, [(0, .ref 18), (1, .int l1), (2, .int l2)], [], ((xu I1 22 (((l1 + (1 : Int32))).toInt.toNat) (I1 18 18)), L1))) (B := (171, [(0, .ref 18), (1, .int l1), (2, .int l2)], [], ((xu I1 22 (((l1 + (1 : Int32))).toInt.toNat) (I1 18 18)), L1))) h3 rfl ?_
  refine xe_bF 2 (A := (179, [(0, .ref 18), (1, .int l1), (2, .int l2)], [], ((xu I1 22 (((l1 + (1 : Int32))).toInt.toNat) (I1 18 18)), L1))) (B := (177, [(0, .ref 18), (1, .int l1), (2, .int l2)], [], ((xu I1 22 (((l1 + (1 : Int32))).toInt.toNat) (I1 18 18)), L1))) h4 rfl ?_
  refine xe_go 0 (s' := (178, [(0, .ref 18), (1, .int l1), (2, .int l2)], [.int (1 : Int32)], ((xu I1 22 (((l1 + (1 : Int32))).toInt.toNat) (I1 18 18)), L1))) rfl ?_
  exact xe_end rfl rfl rfl
set_option maxRecDepth 100000 in
theorem pt_X13_ledgerLine_22 {l1 l2 s0 s1 : Int32} {I I1 : Nat → Nat → Int32} {L L1 : Nat → Nat → Int64} (c1 : fx_X13_takes [.int s0, .int s1, .ref 18] (I, L) (some (.int 0)) (I1, L1)) : ∃ n, xr_X13_ledgerLine n (141, [(0, .ref 18), (1, .int l1), (2, .int l2)], [.int s0, .int s1, .ref 18], (I, L)) (some (.int (0 : Int32))) (I1, L1) := by
  refine xe_vir (n := 3) (f := fx_X13_takes) rfl (Nat.le_of_ble_eq_true rfl) (List.mem_of_getElem? (i := 5) rfl) (Nat.le_of_ble_eq_true rfl) c1 ?_
  refine xe_go 1 (s' := (148, [(0, .ref 18), (1, .int l1), (2, .int l2)], [.int (0 : Int32)], (I1, L1))) rfl ?_
  exact xe_end rfl rfl rfl
set_option maxRecDepth 100000 in
theorem pt_X13_ledgerLine_23 {l1 l2 : Int32} {I : Nat → Nat → Int32} {L : Nat → Nat → Int64} (h1 : xe_ib (l1 + (2 : Int32)) 160 = true) : ∃ n, xr_X13_ledgerLine n (221, [(0, .ref 18), (1, .int l1), (2, .int l2)], [], (I, L)) (some (.int (1 : Int32))) ((xu I 22 (((l1 + (2 : Int32))).toInt.toNat) (I 18 18)), L) := by
  refine xe_ar 7 (A := (233, [(0, .ref 18), (1, .int l1), (2, .int l2)], [], ((xu I 22 (((l1 + (2 : Int32))).toInt.toNat) (I 18 18)), L))) h1 rfl ?_
  refine xe_go 0 (s' := (234, [(0, .ref 18), (1, .int l1), (2, .int l2)], [.int (1 : Int32)], ((xu I 22 (((l1 + (2 : Int32))).toInt.toNat) (I 18 18)), L))) rfl ?_
  exact xe_end rfl rfl rfl

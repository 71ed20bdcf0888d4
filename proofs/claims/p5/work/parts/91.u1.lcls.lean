/-! ===== the class reads a LEDGER: tables, contracts, paths ===== -/
def xi_X2_needsMan : List (Nat × Nat × Instr) := [(0, 1, .aload_n 0), (1, 3, .getstatic 21), (4, 3, .if_acmp .eq 10), (7, 1, .aload_n 0), (8, 3, .getstatic 30), (11, 3, .if_acmp .ne 7), (14, 1, .iconst 1), (15, 3, .goto 4), (18, 1, .iconst 0), (19, 1, .ireturn)]
def xg_X2_needsMan : zf_ft := []
def xp_X2_needsMan : zf_ft := []
def xv_X2_needsMan : List (Nat × Nat × xe_F) := []
def xt_X2_needsMan : List (Nat × Nat × xe_F) := []
abbrev xr_X2_needsMan := xe_run xGT xSC xRF 1 xg_X2_needsMan xp_X2_needsMan [(21, 205), (30, 208)] [] (xv_X2_needsMan) xt_X2_needsMan xi_X2_needsMan
def fx_X2_needsMan : xe_F := fun us hp v hp' => (us.map fun v => v.category).sum ≤ 1 ∧ xe_rt (some .boolean) v ∧ (∃ g, us = [.ref g] ∧ Nat.beq (xe_k g) 128 = true) ∧ ∃ n, xr_X2_needsMan n (0, xe_ag 0 us.reverse, [], hp) v hp'
theorem mk_X2_needsMan {k0 : Nat} {hp hp' : xe_H} {v : Option Value} (hk : Nat.beq (xe_k k0) 128 = true) (hr : xe_rt (some .boolean) v) (h : ∃ n, xr_X2_needsMan n (0, [(0, .ref k0)], [], hp) v hp') : fx_X2_needsMan [.ref k0] hp v hp' := ⟨Nat.le_of_ble_eq_true rfl, hr, ⟨_, rfl, hk⟩, h⟩
theorem hx_X2_needsMan : ∀ us hp v hp', fx_X2_needsMan us hp v hp' → (us.map fun v => v.category).sum ≤ 1 ∧ xe_rt (some .boolean) v ∧ ∃ n, xr_X2_needsMan n (0, xe_ag 0 us.reverse, [], hp) v hp' := fun us hp v hp' h => ⟨h.1, h.2.1, h.2.2.2⟩
theorem fr_X2_needsMan : ∀ us hp v hp', fx_X2_needsMan us hp v hp' → ∃ g, us = [.ref g] ∧ Nat.beq (xe_k g) 128 = true := fun us hp v hp' h => h.2.2.1
set_option maxRecDepth 100000 in
set_option maxHeartbeats 4000000 in
theorem kx_X2_needsMan (l : Launch) (D : va_G) (k : Nat → ClassId) (B0 : Nat) (ad : Nat → Nat) (al sw : Nat) : xe_Con l yX2_needsMan (zw yX2_needsMan cX2_needsMan 1 (some .boolean)) ({ frames := 0, cells := 0, slots := 0, locals := 0 }) D k ad (zEx B0 ad al sw) xGT xSC xRF (fx_X2_needsMan) := by
  have hEx := zEx_ok B0 ad al sw
  refine xe_mk (cc := cX2_needsMan) (nL := 1) (ret := (some .boolean)) (fg := xg_X2_needsMan) (fp := xp_X2_needsMan) (sg := [(21, 205), (30, 208)]) (lc := []) (cv := xv_X2_needsMan) (cs := xt_X2_needsMan) (ins := xi_X2_needsMan) (by decide) rfl hEx (by decide +kernel) hx_X2_needsMan ?_
  intro p e s m args below meth c Q Sg w0 A θ S hK hE hAB hA hth
  refine ⟨?_, ?_, ?_, ?_, ?_, ?_⟩
  · exact zf_an
  · exact zf_an
  · exact xe_a2 ((fun H locs rest pc ls hS hdg kk => va_gets (C := RX2) (n := "PAYS") (d := zkD) (v := .ref (θ 205)) S.1 S.2.1 (by rw [(hth.2 5 (by decide)).1]; exact (hE.2.2.2.1.1 5 (by decide)).1.narrow hAB) hS S.2.2.2.1 (S.2.2.2.2 (.fieldLink RX2 21 "RungMoney$Key" "PAYS" "LRungMoney$Key;") (List.mem_cons_of_mem _ zw_1053)) (fun _ h9 => h9) hdg (kk (by show Sg (θ 205) = some 128; rw [(hth.2 5 (by decide)).1]; exact (hth.2 5 (by decide)).2)))) (xe_a2 ((fun H locs rest pc ls hS hdg kk => va_gets (C := RX2) (n := "CLIMBS") (d := zkD) (v := .ref (θ 208)) S.1 S.2.1 (by rw [(hth.2 8 (by decide)).1]; exact (hE.2.2.2.1.1 8 (by decide)).1.narrow hAB) hS S.2.2.2.1 (S.2.2.2.2 (.fieldLink RX2 30 "RungMoney$Key" "CLIMBS" "LRungMoney$Key;") (List.mem_cons_of_mem _ zw_1055)) (fun _ h9 => h9) hdg (kk (by show Sg (θ 208) = some 128; rw [(hth.2 8 (by decide)).1]; exact (hth.2 8 (by decide)).2)))) xe_n2)
  · exact xe_n3
  · exact xe_n4
  · exact xe_n4
set_option maxRecDepth 100000 in
theorem pt_X2_needsMan_0 {k0 : Nat} {I : Nat → Nat → Int32} {L : Nat → Nat → Int64} (h1 : (Nat.beq k0 205) = true) : ∃ n, xr_X2_needsMan n (0, [(0, .ref k0)], [], (I, L)) (some (.int (1 : Int32))) (I, L) := by
  refine xe_bT 2 (A := (14, [(0, .ref k0)], [], (I, L))) (B := (7, [(0, .ref k0)], [], (I, L))) h1 rfl ?_
  refine xe_go 1 (s' := (19, [(0, .ref k0)], [.int (1 : Int32)], (I, L))) rfl ?_
  exact xe_end rfl rfl rfl
set_option maxRecDepth 100000 in
theorem pt_X2_needsMan_1 {k0 : Nat} {I : Nat → Nat → Int32} {L : Nat → Nat → Int64} (h1 : (Nat.beq k0 205) = false) (h2 : (Nat.beq k0 208) = true) : ∃ n, xr_X2_needsMan n (0, [(0, .ref k0)], [], (I, L)) (some (.int (1 : Int32))) (I, L) := by
  refine xe_bF 2 (A := (14, [(0, .ref k0)], [], (I, L))) (B := (7, [(0, .ref k0)], [], (I, L))) h1 rfl ?_
  refine xe_bT 2 (A := (14, [(0, .ref k0)], [], (I, L))) (B := (18, [(0, .ref k0)], [], (I, L))) h2 rfl ?_
  refine xe_go 1 (s' := (19, [(0, .ref k0)], [.int (1 : Int32)], (I, L))) rfl ?_
  exact xe_end rfl rfl rfl
set_option maxRecDepth 100000 in
theorem pt_X2_needsMan_2 {k0 : Nat} {I : Nat → Nat → Int32} {L : Nat → Nat → Int64} (h1 : (Nat.beq k0 205) = false) (h2 : (Nat.beq k0 208) = false) : ∃ n, xr_X2_needsMan n (0, [(0, .ref k0)], [], (I, L)) (some (.int (0 : Int32))) (I, L) := by
  refine xe_bF 2 (A := (14, [(0, .ref k0)], [], (I, L))) (B := (7, [(0, .ref k0)], [], (I, L))) h1 rfl ?_
  refine xe_bF 2 (A := (14, [(0, .ref k0)], [], (I, L))) (B := (18, [(0, .ref k0)], [], (I, L))) h2 rfl ?_
  refine xe_go 0 (s' := (19, [(0, .ref k0)], [.int (0 : Int32)], (I, L))) rfl ?_
  exact xe_end rfl rfl rfl
def xi_X4_readRest : List (Nat × Nat × Instr) := [(0, 1, .aload_n 3), (1, 3, .getfield 80), (4, 1, .iconst (-1)), (5, 3, .if_icmp .eq 30), (8, 1, .aload_n 1), (9, 1, .iconst 0), (10, 1, .aload_n 3), (11, 3, .getfield 80), (14, 3, .invokevirtual 83), (17, 3, .ifCond .ne 5), (20, 1, .iconst 0), (21, 1, .ireturn), (22, 1, .aload_n 0), (23, 3, .getfield 21), (26, 1, .aload_n 0), (27, 3, .getfield 31), (30, 1, .aload_n 1), (31, 3, .getfield 60), (34, 1, .iastore), (35, 1, .aload_n 3), (36, 3, .getfield 87), (39, 1, .iconst (-1)), (40, 3, .if_icmp .ne 10), (43, 1, .aload_n 3), (44, 3, .getstatic 90), (47, 3, .if_acmp .ne 49), (50, 1, .aload_n 3), (51, 3, .getstatic 90), (54, 3, .if_acmp .ne 11), (57, 1, .aload_n 1), (58, 1, .aload_n 2), (59, 3, .invokevirtual 93), (62, 3, .goto 12), (65, 1, .aload_n 1), (66, 1, .iconst 0), (67, 1, .aload_n 3), (68, 3, .getfield 87), (71, 3, .invokevirtual 83), (74, 2, .istore 4), (76, 2, .iload 4), (78, 3, .ifCond .ne 5), (81, 1, .iconst 0), (82, 1, .ireturn), (83, 1, .aload_n 0), (84, 3, .getfield 24), (87, 1, .aload_n 0), (88, 3, .getfield 31), (91, 1, .aload_n 1), (92, 3, .getfield 60), (95, 1, .iastore), (96, 1, .aload_n 0), (97, 1, .dup), (98, 3, .getfield 31), (101, 1, .iconst 1), (102, 1, .iadd), (103, 3, .putfield 31), (106, 1, .iconst 1), (107, 1, .ireturn)]
def xg_X4_readRest : zf_ft := [(21, 2, 2, .inl (0, 0)), (31, 2, 4, .inl (0, 0)), (60, 5, 8, .inl (0, 0)), (24, 2, 3, .inl (0, 0))]
def xp_X4_readRest : zf_ft := [(31, 2, 4, .inl ((-2147483648), 2147483647))]
def xv_X4_readRest : List (Nat × Nat × xe_F) := [(83, 3, fx_X7_takeNumber), (93, 2, fx_X7_takeMan)]
def xt_X4_readRest : List (Nat × Nat × xe_F) := [(80, 1001, (fx_kf 1)), (87, 1001, (fx_kf 2))]
abbrev xr_X4_readRest := xe_run xGT xSC xRF 5 xg_X4_readRest xp_X4_readRest [(90, 205)] [] (xv_X4_readRest) xt_X4_readRest xi_X4_readRest
def fx_X4_readRest : xe_F := fun us hp v hp' => (us.map fun v => v.category).sum ≤ 5 ∧ xe_rt (some .boolean) v ∧ (∃ ar, us = ar ++ [.ref 5]) ∧ ∃ n, xr_X4_readRest n (0, xe_ag 0 us.reverse, [], hp) v hp'
theorem mk_X4_readRest {k3 : Nat} {hp hp' : xe_H} {v : Option Value} (hr : xe_rt (some .boolean) v) (h : ∃ n, xr_X4_readRest n (0, [(0, .ref 5), (1, .ref 3), (2, .ref 64), (3, .ref k3)], [], hp) v hp') : fx_X4_readRest [.ref k3, .ref 64, .ref 3, .ref 5] hp v hp' := ⟨Nat.le_of_ble_eq_true rfl, hr, ⟨[.ref k3, .ref 64, .ref 3], rfl⟩, h⟩
theorem hx_X4_readRest : ∀ us hp v hp', fx_X4_readRest us hp v hp' → (us.map fun v => v.category).sum ≤ 5 ∧ xe_rt (some .boolean) v ∧ ∃ n, xr_X4_readRest n (0, xe_ag 0 us.reverse, [], hp) v hp' := fun us hp v hp' h => ⟨h.1, h.2.1, h.2.2.2⟩
theorem fr_X4_readRest : ∀ us hp v hp', fx_X4_readRest us hp v hp' → ∃ ar, us = ar ++ [.ref 5] := fun us hp v hp' h => h.2.2.1
set_option maxRecDepth 100000 in
set_option maxHeartbeats 4000000 in
theorem kx_X4_readRest (l : Launch) (D : va_G) (k : Nat → ClassId) (B0 : Nat) (ad : Nat → Nat) (al sw : Nat) : xe_Con l yX4_readRest (zw yX4_readRest cX4_readRest 5 (some .boolean)) ({ frames := 3, cells := 0, slots := 0, locals := 66 }) D k ad (zEx B0 ad al sw) xGT xSC xRF (fx_X4_readRest) := by
  have hEx := zEx_ok B0 ad al sw
  refine xe_mk (cc := cX4_readRest) (nL := 5) (ret := (some .boolean)) (fg := xg_X4_readRest) (fp := xp_X4_readRest) (sg := [(90, 205)]) (lc := []) (cv := xv_X4_readRest) (cs := xt_X4_readRest) (ins := xi_X4_readRest) (by decide) rfl hEx (by decide +kernel) hx_X4_readRest ?_
  intro p e s m args below meth c Q Sg w0 A θ S hK hE hAB hA hth
  refine ⟨?_, ?_, ?_, ?_, ?_, ?_⟩
  · exact zf_ac ((fun H locs ws a q0 fs v rest pc ls hP he hv hdg kk => va_get (D := D) (ci := 2) (C := RX4) (T := TX4) (N := 7) (own := RX4) S.1 S.2.1 S.2.2.2.2 (zg_in inW_X4) S.2.2.2.1 hK hP q0 he rfl 2 (by decide) (S.2.2.2.2 (.fieldLink RX4 21 "RungMoney$Ledger" "firsts" "[I") (List.mem_cons_of_mem _ zw_343)) (fun _ h9 => h9) hv hdg kk)) (zf_ac ((fun H locs ws a q0 fs v rest pc ls hP he hv hdg kk => va_get (D := D) (ci := 2) (C := RX4) (T := TX4) (N := 7) (own := RX4) S.1 S.2.1 S.2.2.2.2 (zg_in inW_X4) S.2.2.2.1 hK hP q0 he rfl 4 (by decide) (S.2.2.2.2 (.fieldLink RX4 31 "RungMoney$Ledger" "size" "I") (List.mem_cons_of_mem _ zw_345)) (fun _ h9 => h9) hv hdg kk)) (zf_ac ((fun H locs ws a q0 fs v rest pc ls hP he hv hdg kk => va_get (D := D) (ci := 5) (C := RX7) (T := TX7) (N := 11) (own := RX4) S.1 S.2.1 S.2.2.2.2 (zg_in inW_X7) S.2.2.2.1 hK hP q0 he rfl 8 (by decide) (S.2.2.2.2 (.fieldLink RX4 60 "RungMoney$Reader" "taken" "I") (List.mem_cons_of_mem _ zw_162)) (fun _ h9 => h9) hv hdg kk)) (zf_ac ((fun H locs ws a q0 fs v rest pc ls hP he hv hdg kk => va_get (D := D) (ci := 2) (C := RX4) (T := TX4) (N := 7) (own := RX4) S.1 S.2.1 S.2.2.2.2 (zg_in inW_X4) S.2.2.2.1 hK hP q0 he rfl 3 (by decide) (S.2.2.2.2 (.fieldLink RX4 24 "RungMoney$Ledger" "seconds" "[I") (List.mem_cons_of_mem _ zw_344)) (fun _ h9 => h9) hv hdg kk)) zf_an)))
  · exact zf_ac ((fun H locs ws a q0 fs v rest pc ls hP hD hS he hl hv hdg kk => by obtain ⟨x, rfl, h1, h2⟩ := hv; exact va_put (D := D) (ci := 2) (v := .int x) (ty := .int) (C := RX4) (T := TX4) (N := 7) (own := RX4) S.1 S.2.1 S.2.2.2.2 (zg_in inW_X4) tyX4 tyX4_ok nmX4 S.2.2.2.1 hK hP hD hS q0 he rfl 4 (by decide) (S.2.2.2.2 (.fieldLink RX4 31 "RungMoney$Ledger" "size" "I") (List.mem_cons_of_mem _ zw_345)) (fun _ h9 => h9) rfl (by decide +kernel) rfl rfl hl hdg kk)) zf_an
  · exact xe_a2 ((fun H locs rest pc ls hS hdg kk => va_gets (C := RX2) (n := "PAYS") (d := zkD) (v := .ref (θ 205)) S.1 S.2.1 (by rw [(hth.2 5 (by decide)).1]; exact (hE.2.2.2.1.1 5 (by decide)).1.narrow hAB) hS S.2.2.2.1 (S.2.2.2.2 (.fieldLink RX4 90 "RungMoney$Key" "PAYS" "LRungMoney$Key;") (List.mem_cons_of_mem _ zw_1064)) (fun _ h9 => h9) hdg (kk (by show Sg (θ 205) = some 128; rw [(hth.2 5 (by decide)).1]; exact (hth.2 5 (by decide)).2)))) xe_n2
  · exact xe_n3
  · exact xe_a4 (xe_crV S hEx hE hAB hA hK hth (kx_X7_takeNumber l D k B0 ad al sw) (cwV 2 S.2.2.2.2 (zg_V zw_1063 zw_587 zw_588 zw_97 zw_589) rfl rfl rfl (by decide +kernel) ⟨(Nat.le_of_ble_eq_true rfl), (Nat.le_of_ble_eq_true rfl)⟩) ⟨(Nat.le_of_ble_eq_true rfl), (Nat.le_of_ble_eq_true rfl)⟩ 5 rfl rfl 3 (by decide +kernel) fr_X7_takeNumber) (xe_a4 (xe_crV S hEx hE hAB hA hK hth (kx_X7_takeMan l D k B0 ad al sw) (cwV 1 S.2.2.2.2 (zg_V zw_1065 zw_550 zw_551 zw_97 zw_552) rfl rfl rfl (by decide +kernel) ⟨(Nat.le_of_ble_eq_true rfl), (Nat.le_of_ble_eq_true rfl)⟩) ⟨(Nat.le_of_ble_eq_true rfl), (Nat.le_of_ble_eq_true rfl)⟩ 5 rfl rfl 3 (by decide +kernel) fr_X7_takeMan) xe_n4)
  · exact xe_a4 (xe_crG S hE hAB hth (j := 1) (by simp [zkF]) rfl rfl rfl (S.2.2.2.2 (.fieldLink RX4 80 "RungMoney$Key" "first" "I") (List.mem_cons_of_mem _ zw_1975))) (xe_a4 (xe_crG S hE hAB hth (j := 2) (by simp [zkF]) rfl rfl rfl (S.2.2.2.2 (.fieldLink RX4 87 "RungMoney$Key" "second" "I") (List.mem_cons_of_mem _ zw_1976))) xe_n4)
set_option maxRecDepth 100000 in
theorem pt_X4_readRest_0 {k3 : Nat} {I I3 : Nat → Nat → Int32} {L L3 : Nat → Nat → Int64} {r1 r2 : Int32} (c1 : fx_kf 1 [.ref k3] (I, L) (some (.int r1)) (I, L)) (h1 : (xe_cmp .eq r1 (Int32.ofInt (-1))) = true) (c2 : fx_kf 2 [.ref k3] (I, L) (some (.int r2)) (I, L)) (h2 : (xe_cmp .ne r2 (Int32.ofInt (-1))) = true) (h3 : (Nat.beq k3 205) = true) (c3 : fx_X7_takeMan [.ref 64, .ref 3] (I, L) (some (.int 1)) (I3, L3)) (h4 : xe_ib (I3 5 4) 40 = true) : ∃ n, xr_X4_readRest n (0, [(0, .ref 5), (1, .ref 3), (2, .ref 64), (3, .ref k3)], [], (I, L)) (some (.int (1 : Int32))) ((xu (xu I3 9 (((I3 5 4)).toInt.toNat) (I3 3 8)) 5 4 ((I3 5 4) + (1 : Int32))), L3) := by
  refine xe_go 0 (s' := (1, [(0, .ref 5), (1, .ref 3), (2, .ref 64), (3, .ref k3)], [.ref k3], (I, L))) rfl ?_
  refine xe_kf (n := 1) (f := fx_kf 1) rfl (Nat.le_of_ble_eq_true rfl) (List.mem_of_getElem? (i := 0) rfl) (Nat.le_of_ble_eq_true rfl) c1 ?_
  refine xe_bT 1 (A := (35, [(0, .ref 5), (1, .ref 3), (2, .ref 64), (3, .ref k3)], [], (I, L))) (B := (8, [(0, .ref 5), (1, .ref 3), (2, .ref 64), (3, .ref k3)], [], (I, L))) h1 rfl ?_
  refine xe_go 0 (s' := (36, [(0, .ref 5), (1, .ref 3), (2, .ref 64), (3, .ref k3)], [.ref k3], (I, L))) rfl ?_
  refine xe_kf (n := 1) (f := fx_kf 2) rfl (Nat.le_of_ble_eq_true rfl) (List.mem_of_getElem? (i := 1) rfl) (Nat.le_of_ble_eq_true rfl) c2 ?_
  refine xe_bT 1 (A := (50, [(0, .ref 5), (1, .ref 3), (2, .ref 64), (3, .ref k3)], [], (I, L))) (B := (43, [(0, .ref 5), (1, .ref 3), (2, .ref 64), (3, .ref k3)], [], (I, L))) h2 rfl ?_
  refine xe_bT 2 (A := (57, [(0, .ref 5), (1, .ref 3), (2, .ref 64), (3, .ref k3)], [], (I, L))) (B := (65, [(0, .ref 5), (1, .ref 3), (2, .ref 64), (3, .ref k3)], [], (I, L))) h3 rfl ?_
  refine xe_go 1 (s' := (59, [(0, .ref 5), (1, .ref 3), (2, .ref 64), (3, .ref k3)], [.ref 64, .ref 3], (I, L))) rfl ?_
  refine xe_vir (n := 2) (f := fx_X7_takeMan) rfl (Nat.le_of_ble_eq_true rfl) (List.mem_of_getElem? (i := 1) rfl) (Nat.le_of_ble_eq_true rfl) c3 ?_
  refine xe_ar 10 (A := (96, [(0, .ref 5), (1, .ref 3), (2, .ref 64), (3, .ref k3), (4, .int 1)], [], ((xu I3 9 (((I3 5 4)).toInt.toNat) (I3 3 8)), L3))) h4 rfl ?_
  refine xe_go 6 (s' := (107, [(0, .ref 5), (1, .ref 3), (2, .ref 64), (3, .ref k3), (4, .int 1)], [.int (1 : Int32)], ((xu (xu I3 9 (((I3 5 4)).toInt.toNat) (I3 3 8)) 5 4 ((I3 5 4) + (1 : Int32))), L3))) rfl ?_
  exact xe_end rfl rfl rfl
set_option maxRecDepth 100000 in
theorem pt_X4_readRest_1 {k3 : Nat} {I I3 : Nat → Nat → Int32} {L L3 : Nat → Nat → Int64} {r1 r2 : Int32} (c1 : fx_kf 1 [.ref k3] (I, L) (some (.int r1)) (I, L)) (h1 : (xe_cmp .eq r1 (Int32.ofInt (-1))) = true) (c2 : fx_kf 2 [.ref k3] (I, L) (some (.int r2)) (I, L)) (h2 : (xe_cmp .ne r2 (Int32.ofInt (-1))) = true) (h3 : (Nat.beq k3 205) = true) (c3 : fx_X7_takeMan [.ref 64, .ref 3] (I, L) (some (.int 0)) (I3, L3)) : ∃ n, xr_X4_readRest n (0, [(0, .ref 5), (1, .ref 3), (2, .ref 64), (3, .ref k3)], [], (I, L)) (some (.int (0 : Int32))) (I3, L3) := by
  refine xe_go 0 (s' := (1, [(0, .ref 5), (1, .ref 3), (2, .ref 64), (3, .ref k3)], [.ref k3], (I, L))) rfl ?_
  refine xe_kf (n := 1) (f := fx_kf 1) rfl (Nat.le_of_ble_eq_true rfl) (List.mem_of_getElem? (i := 0) rfl) (Nat.le_of_ble_eq_true rfl) c1 ?_
  refine xe_bT 1 (A := (35, [(0, .ref 5), (1, .ref 3), (2, .ref 64), (3, .ref k3)], [], (I, L))) (B := (8, [(0, .ref 5), (1, .ref 3), (2, .ref 64), (3, .ref k3)], [], (I, L))) h1 rfl ?_
  refine xe_go 0 (s' := (36, [(0, .ref 5), (1, .ref 3), (2, .ref 64), (3, .ref k3)], [.ref k3], (I, L))) rfl ?_
  refine xe_kf (n := 1) (f := fx_kf 2) rfl (Nat.le_of_ble_eq_true rfl) (List.mem_of_getElem? (i := 1) rfl) (Nat.le_of_ble_eq_true rfl) c2 ?_
  refine xe_bT 1 (A := (50, [(0, .ref 5), (1, .ref 3), (2, .ref 64), (3, .ref k3)], [], (I, L))) (B := (43, [(0, .ref 5), (1, .ref 3), (2, .ref 64), (3, .ref k3)], [], (I, L))) h2 rfl ?_
  refine xe_bT 2 (A := (57, [(0, .ref 5), (1, .ref 3), (2, .ref 64), (3, .ref k3)], [], (I, L))) (B := (65, [(0, .ref 5), (1, .ref 3), (2, .ref 64), (3, .ref k3)], [], (I, L))) h3 rfl ?_
  refine xe_go 1 (s' := (59, [(0, .ref 5), (1, .ref 3), (2, .ref 64), (3, .ref k3)], [.ref 64, .ref 3], (I, L))) rfl ?_
  refine xe_vir (n := 2) (f := fx_X7_takeMan) rfl (Nat.le_of_ble_eq_true rfl) (List.mem_of_getElem? (i := 1) rfl) (Nat.le_of_ble_eq_true rfl) c3 ?_
  refine xe_go 4 (s' := (82, [(0, .ref 5), (1, .ref 3), (2, .ref 64), (3, .ref k3), (4, .int 0)], [.int (0 : Int32)], (I3, L3))) rfl ?_
  exact xe_end rfl rfl rfl
set_option maxRecDepth 100000 in
theorem pt_X4_readRest_2 {k3 : Nat} {I I4 : Nat → Nat → Int32} {L L4 : Nat → Nat → Int64} {r1 r2 r3 : Int32} (c1 : fx_kf 1 [.ref k3] (I, L) (some (.int r1)) (I, L)) (h1 : (xe_cmp .eq r1 (Int32.ofInt (-1))) = true) (c2 : fx_kf 2 [.ref k3] (I, L) (some (.int r2)) (I, L)) (h2 : (xe_cmp .ne r2 (Int32.ofInt (-1))) = true) (h3 : (Nat.beq k3 205) = false) (c3 : fx_kf 2 [.ref k3] (I, L) (some (.int r3)) (I, L)) (c4 : fx_X7_takeNumber [.int r3, .int (0 : Int32), .ref 3] (I, L) (some (.int 1)) (I4, L4)) (h4 : xe_ib (I4 5 4) 40 = true) : ∃ n, xr_X4_readRest n (0, [(0, .ref 5), (1, .ref 3), (2, .ref 64), (3, .ref k3)], [], (I, L)) (some (.int (1 : Int32))) ((xu (xu I4 9 (((I4 5 4)).toInt.toNat) (I4 3 8)) 5 4 ((I4 5 4) + (1 : Int32))), L4) := by
  refine xe_go 0 (s' := (1, [(0, .ref 5), (1, .ref 3), (2, .ref 64), (3, .ref k3)], [.ref k3], (I, L))) rfl ?_
  refine xe_kf (n := 1) (f := fx_kf 1) rfl (Nat.le_of_ble_eq_true rfl) (List.mem_of_getElem? (i := 0) rfl) (Nat.le_of_ble_eq_true rfl) c1 ?_
  refine xe_bT 1 (A := (35, [(0, .ref 5), (1, .ref 3), (2, .ref 64), (3, .ref k3)], [], (I, L))) (B := (8, [(0, .ref 5), (1, .ref 3), (2, .ref 64), (3, .ref k3)], [], (I, L))) h1 rfl ?_
  refine xe_go 0 (s' := (36, [(0, .ref 5), (1, .ref 3), (2, .ref 64), (3, .ref k3)], [.ref k3], (I, L))) rfl ?_
  refine xe_kf (n := 1) (f := fx_kf 2) rfl (Nat.le_of_ble_eq_true rfl) (List.mem_of_getElem? (i := 1) rfl) (Nat.le_of_ble_eq_true rfl) c2 ?_
  refine xe_bT 1 (A := (50, [(0, .ref 5), (1, .ref 3), (2, .ref 64), (3, .ref k3)], [], (I, L))) (B := (43, [(0, .ref 5), (1, .ref 3), (2, .ref 64), (3, .ref k3)], [], (I, L))) h2 rfl ?_
  refine xe_bF 2 (A := (57, [(0, .ref 5), (1, .ref 3), (2, .ref 64), (3, .ref k3)], [], (I, L))) (B := (65, [(0, .ref 5), (1, .ref 3), (2, .ref 64), (3, .ref k3)], [], (I, L))) h3 rfl ?_
  refine xe_go 2 (s' := (68, [(0, .ref 5), (1, .ref 3), (2, .ref 64), (3, .ref k3)], [.ref k3, .int (0 : Int32), .ref 3], (I, L))) rfl ?_
  refine xe_kf (n := 1) (f := fx_kf 2) rfl (Nat.le_of_ble_eq_true rfl) (List.mem_of_getElem? (i := 1) rfl) (Nat.le_of_ble_eq_true rfl) c3 ?_
  refine xe_vir (n := 3) (f := fx_X7_takeNumber) rfl (Nat.le_of_ble_eq_true rfl) (List.mem_of_getElem? (i := 0) rfl) (Nat.le_of_ble_eq_true rfl) c4 ?_
  refine xe_ar 9 (A := (96, [(0, .ref 5), (1, .ref 3), (2, .ref 64), (3, .ref k3), (4, .int 1)], [], ((xu I4 9 (((I4 5 4)).toInt.toNat) (I4 3 8)), L4))) h4 rfl ?_
  refine xe_go 6 (s' := (107, [(0, .ref 5), (1, .ref 3), (2, .ref 64), (3, .ref k3), (4, .int 1)], [.int (1 : Int32)], ((xu (xu I4 9 (((I4 5 4)).toInt.toNat) (I4 3 8)) 5 4 ((I4 5 4) + (1 : Int32))), L4))) rfl ?_
  exact xe_end rfl rfl rfl
set_option maxRecDepth 100000 in
theorem pt_X4_readRest_3 {k3 : Nat} {I I4 : Nat → Nat → Int32} {L L4 : Nat → Nat → Int64} {r1 r2 r3 : Int32} (c1 : fx_kf 1 [.ref k3] (I, L) (some (.int r1)) (I, L)) (h1 : (xe_cmp .eq r1 (Int32.ofInt (-1))) = true) (c2 : fx_kf 2 [.ref k3] (I, L) (some (.int r2)) (I, L)) (h2 : (xe_cmp .ne r2 (Int32.ofInt (-1))) = true) (h3 : (Nat.beq k3 205) = false) (c3 : fx_kf 2 [.ref k3] (I, L) (some (.int r3)) (I, L)) (c4 : fx_X7_takeNumber [.int r3, .int (0 : Int32), .ref 3] (I, L) (some (.int 0)) (I4, L4)) : ∃ n, xr_X4_readRest n (0, [(0, .ref 5), (1, .ref 3), (2, .ref 64), (3, .ref k3)], [], (I, L)) (some (.int (0 : Int32))) (I4, L4) := by
  refine xe_go 0 (s' := (1, [(0, .ref 5), (1, .ref 3), (2, .ref 64), (3, .ref k3)], [.ref k3], (I, L))) rfl ?_
  refine xe_kf (n := 1) (f := fx_kf 1) rfl (Nat.le_of_ble_eq_true rfl) (List.mem_of_getElem? (i := 0) rfl) (Nat.le_of_ble_eq_true rfl) c1 ?_
  refine xe_bT 1 (A := (35, [(0, .ref 5), (1, .ref 3), (2, .ref 64), (3, .ref k3)], [], (I, L))) (B := (8, [(0, .ref 5), (1, .ref 3), (2, .ref 64), (3, .ref k3)], [], (I, L))) h1 rfl ?_
  refine xe_go 0 (s' := (36, [(0, .ref 5), (1, .ref 3), (2, .ref 64), (3, .ref k3)], [.ref k3], (I, L))) rfl ?_
  refine xe_kf (n := 1) (f := fx_kf 2) rfl (Nat.le_of_ble_eq_true rfl) (List.mem_of_getElem? (i := 1) rfl) (Nat.le_of_ble_eq_true rfl) c2 ?_
  refine xe_bT 1 (A := (50, [(0, .ref 5), (1, .ref 3), (2, .ref 64), (3, .ref k3)], [], (I, L))) (B := (43, [(0, .ref 5), (1, .ref 3), (2, .ref 64), (3, .ref k3)], [], (I, L))) h2 rfl ?_
  refine xe_bF 2 (A := (57, [(0, .ref 5), (1, .ref 3), (2, .ref 64), (3, .ref k3)], [], (I, L))) (B := (65, [(0, .ref 5), (1, .ref 3), (2, .ref 64), (3, .ref k3)], [], (I, L))) h3 rfl ?_
  refine xe_go 2 (s' := (68, [(0, .ref 5), (1, .ref 3), (2, .ref 64), (3, .ref k3)], [.ref k3, .int (0 : Int32), .ref 3], (I, L))) rfl ?_
  refine xe_kf (n := 1) (f := fx_kf 2) rfl (Nat.le_of_ble_eq_true rfl) (List.mem_of_getElem? (i := 1) rfl) (Nat.le_of_ble_eq_true rfl) c3 ?_
  refine xe_vir (n := 3) (f := fx_X7_takeNumber) rfl (Nat.le_of_ble_eq_true rfl) (List.mem_of_getElem? (i := 0) rfl) (Nat.le_of_ble_eq_true rfl) c4 ?_
  refine xe_go 3 (s' := (82, [(0, .ref 5), (1, .ref 3), (2, .ref 64), (3, .ref k3), (4, .int 0)], [.int (0 : Int32)], (I4, L4))) rfl ?_
  exact xe_end rfl rfl rfl
set_option maxRecDepth 100000 in
theorem pt_X4_readRest_4 {k3 : Nat} {I I3 : Nat → Nat → Int32} {L L3 : Nat → Nat → Int64} {r1 r2 : Int32} (c1 : fx_kf 1 [.ref k3] (I, L) (some (.int r1)) (I, L)) (h1 : (xe_cmp .eq r1 (Int32.ofInt (-1))) = true) (c2 : fx_kf 2 [.ref k3] (I, L) (some (.int r2)) (I, L)) (h2 : (xe_cmp .ne r2 (Int32.ofInt (-1))) = false) (h3 : (Nat.beq k3 205) = true) (h4 : (Nat.beq k3 205) = true) (c3 : fx_X7_takeMan [.ref 64, .ref 3] (I, L) (some (.int 1)) (I3, L3)) (h5 : xe_ib (I3 5 4) 40 = true) : ∃ n, xr_X4_readRest n (0, [(0, .ref 5), (1, .ref 3), (2, .ref 64), (3, .ref k3)], [], (I, L)) (some (.int (1 : Int32))) ((xu (xu I3 9 (((I3 5 4)).toInt.toNat) (I3 3 8)) 5 4 ((I3 5 4) + (1 : Int32))), L3) := by
  refine xe_go 0 (s' := (1, [(0, .ref 5), (1, .ref 3), (2, .ref 64), (3, .ref k3)], [.ref k3], (I, L))) rfl ?_
  refine xe_kf (n := 1) (f := fx_kf 1) rfl (Nat.le_of_ble_eq_true rfl) (List.mem_of_getElem? (i := 0) rfl) (Nat.le_of_ble_eq_true rfl) c1 ?_
  refine xe_bT 1 (A := (35, [(0, .ref 5), (1, .ref 3), (2, .ref 64), (3, .ref k3)], [], (I, L))) (B := (8, [(0, .ref 5), (1, .ref 3), (2, .ref 64), (3, .ref k3)], [], (I, L))) h1 rfl ?_
  refine xe_go 0 (s' := (36, [(0, .ref 5), (1, .ref 3), (2, .ref 64), (3, .ref k3)], [.ref k3], (I, L))) rfl ?_
  refine xe_kf (n := 1) (f := fx_kf 2) rfl (Nat.le_of_ble_eq_true rfl) (List.mem_of_getElem? (i := 1) rfl) (Nat.le_of_ble_eq_true rfl) c2 ?_
  refine xe_bF 1 (A := (50, [(0, .ref 5), (1, .ref 3), (2, .ref 64), (3, .ref k3)], [], (I, L))) (B := (43, [(0, .ref 5), (1, .ref 3), (2, .ref 64), (3, .ref k3)], [], (I, L))) h2 rfl ?_
  refine xe_bT 2 (A := (50, [(0, .ref 5), (1, .ref 3), (2, .ref 64), (3, .ref k3)], [], (I, L))) (B := (96, [(0, .ref 5), (1, .ref 3), (2, .ref 64), (3, .ref k3)], [], (I, L))) h3 rfl ?_
  refine xe_bT 2 (A := (57, [(0, .ref 5), (1, .ref 3), (2, .ref 64), (3, .ref k3)], [], (I, L))) (B := (65, [(0, .ref 5), (1, .ref 3), (2, .ref 64), (3, .ref k3)], [], (I, L))) h4 rfl ?_
  refine xe_go 1 (s' := (59, [(0, .ref 5), (1, .ref 3), (2, .ref 64), (3, .ref k3)], [.ref 64, .ref 3], (I, L))) rfl ?_
  refine xe_vir (n := 2) (f := fx_X7_takeMan) rfl (Nat.le_of_ble_eq_true rfl) (List.mem_of_getElem? (i := 1) rfl) (Nat.le_of_ble_eq_true rfl) c3 ?_
  refine xe_ar 10 (A := (96, [(0, .ref 5), (1, .ref 3), (2, .ref 64), (3, .ref k3), (4, .int 1)], [], ((xu I3 9 (((I3 5 4)).toInt.toNat) (I3 3 8)), L3))) h5 rfl ?_
  refine xe_go 6 (s' := (107, [(0, .ref 5), (1, .ref 3), (2, .ref 64), (3, .ref k3), (4, .int 1)], [.int (1 : Int32)], ((xu (xu I3 9 (((I3 5 4)).toInt.toNat) (I3 3 8)) 5 4 ((I3 5 4) + (1 : Int32))), L3))) rfl ?_
  exact xe_end rfl rfl rfl
set_option maxRecDepth 100000 in
theorem pt_X4_readRest_5 {k3 : Nat} {I I3 : Nat → Nat → Int32} {L L3 : Nat → Nat → Int64} {r1 r2 : Int32} (c1 : fx_kf 1 [.ref k3] (I, L) (some (.int r1)) (I, L)) (h1 : (xe_cmp .eq r1 (Int32.ofInt (-1))) = true) (c2 : fx_kf 2 [.ref k3] (I, L) (some (.int r2)) (I, L)) (h2 : (xe_cmp .ne r2 (Int32.ofInt (-1))) = false) (h3 : (Nat.beq k3 205) = true) (h4 : (Nat.beq k3 205) = true) (c3 : fx_X7_takeMan [.ref 64, .ref 3] (I, L) (some (.int 0)) (I3, L3)) : ∃ n, xr_X4_readRest n (0, [(0, .ref 5), (1, .ref 3), (2, .ref 64), (3, .ref k3)], [], (I, L)) (some (.int (0 : Int32))) (I3, L3) := by
  refine xe_go 0 (s' := (1, [(0, .ref 5), (1, .ref 3), (2, .ref 64), (3, .ref k3)], [.ref k3], (I, L))) rfl ?_
  refine xe_kf (n := 1) (f := fx_kf 1) rfl (Nat.le_of_ble_eq_true rfl) (List.mem_of_getElem? (i := 0) rfl) (Nat.le_of_ble_eq_true rfl) c1 ?_
  refine xe_bT 1 (A := (35, [(0, .ref 5), (1, .ref 3), (2, .ref 64), (3, .ref k3)], [], (I, L))) (B := (8, [(0, .ref 5), (1, .ref 3), (2, .ref 64), (3, .ref k3)], [], (I, L))) h1 rfl ?_
  refine xe_go 0 (s' := (36, [(0, .ref 5), (1, .ref 3), (2, .ref 64), (3, .ref k3)], [.ref k3], (I, L))) rfl ?_
  refine xe_kf (n := 1) (f := fx_kf 2) rfl (Nat.le_of_ble_eq_true rfl) (List.mem_of_getElem? (i := 1) rfl) (Nat.le_of_ble_eq_true rfl) c2 ?_
  refine xe_bF 1 (A := (50, [(0, .ref 5), (1, .ref 3), (2, .ref 64), (3, .ref k3)], [], (I, L))) (B := (43, [(0, .ref 5), (1, .ref 3), (2, .ref 64), (3, .ref k3)], [], (I, L))) h2 rfl ?_
  refine xe_bT 2 (A := (50, [(0, .ref 5), (1, .ref 3), (2, .ref 64), (3, .ref k3)], [], (I, L))) (B := (96, [(0, .ref 5), (1, .ref 3), (2, .ref 64), (3, .ref k3)], [], (I, L))) h3 rfl ?_
  refine xe_bT 2 (A := (57, [(0, .ref 5), (1, .ref 3), (2, .ref 64), (3, .ref k3)], [], (I, L))) (B := (65, [(0, .ref 5), (1, .ref 3), (2, .ref 64), (3, .ref k3)], [], (I, L))) h4 rfl ?_
  refine xe_go 1 (s' := (59, [(0, .ref 5), (1, .ref 3), (2, .ref 64), (3, .ref k3)], [.ref 64, .ref 3], (I, L))) rfl ?_
  refine xe_vir (n := 2) (f := fx_X7_takeMan) rfl (Nat.le_of_ble_eq_true rfl) (List.mem_of_getElem? (i := 1) rfl) (Nat.le_of_ble_eq_true rfl) c3 ?_
  refine xe_go 4 (s' := (82, [(0, .ref 5), (1, .ref 3), (2, .ref 64), (3, .ref k3), (4, .int 0)], [.int (0 : Int32)], (I3, L3))) rfl ?_
  exact xe_end rfl rfl rfl
set_option maxRecDepth 100000 in
theorem pt_X4_readRest_6 {k3 : Nat} {I I4 : Nat → Nat → Int32} {L L4 : Nat → Nat → Int64} {r1 r2 r3 : Int32} (c1 : fx_kf 1 [.ref k3] (I, L) (some (.int r1)) (I, L)) (h1 : (xe_cmp .eq r1 (Int32.ofInt (-1))) = true) (c2 : fx_kf 2 [.ref k3] (I, L) (some (.int r2)) (I, L)) (h2 : (xe_cmp .ne r2 (Int32.ofInt (-1))) = false) (h3 : (Nat.beq k3 205) = true) (h4 : (Nat.beq k3 205) = false) (c3 : fx_kf 2 [.ref k3] (I, L) (some (.int r3)) (I, L)) (c4 : fx_X7_takeNumber [.int r3, .int (0 : Int32), .ref 3] (I, L) (some (.int 1)) (I4, L4)) (h5 : xe_ib (I4 5 4) 40 = true) : ∃ n, xr_X4_readRest n (0, [(0, .ref 5), (1, .ref 3), (2, .ref 64), (3, .ref k3)], [], (I, L)) (some (.int (1 : Int32))) ((xu (xu I4 9 (((I4 5 4)).toInt.toNat) (I4 3 8)) 5 4 ((I4 5 4) + (1 : Int32))), L4) := by
  refine xe_go 0 (s' := (1, [(0, .ref 5), (1, .ref 3), (2, .ref 64), (3, .ref k3)], [.ref k3], (I, L))) rfl ?_
  refine xe_kf (n := 1) (f := fx_kf 1) rfl (Nat.le_of_ble_eq_true rfl) (List.mem_of_getElem? (i := 0) rfl) (Nat.le_of_ble_eq_true rfl) c1 ?_
  refine xe_bT 1 (A := (35, [(0, .ref 5), (1, .ref 3), (2, .ref 64), (3, .ref k3)], [], (I, L))) (B := (8, [(0, .ref 5), (1, .ref 3), (2, .ref 64), (3, .ref k3)], [], (I, L))) h1 rfl ?_
  refine xe_go 0 (s' := (36, [(0, .ref 5), (1, .ref 3), (2, .ref 64), (3, .ref k3)], [.ref k3], (I, L))) rfl ?_
  refine xe_kf (n := 1) (f := fx_kf 2) rfl (Nat.le_of_ble_eq_true rfl) (List.mem_of_getElem? (i := 1) rfl) (Nat.le_of_ble_eq_true rfl) c2 ?_
  refine xe_bF 1 (A := (50, [(0, .ref 5), (1, .ref 3), (2, .ref 64), (3, .ref k3)], [], (I, L))) (B := (43, [(0, .ref 5), (1, .ref 3), (2, .ref 64), (3, .ref k3)], [], (I, L))) h2 rfl ?_
  refine xe_bT 2 (A := (50, [(0, .ref 5), (1, .ref 3), (2, .ref 64), (3, .ref k3)], [], (I, L))) (B := (96, [(0, .ref 5), (1, .ref 3), (2, .ref 64), (3, .ref k3)], [], (I, L))) h3 rfl ?_
  refine xe_bF 2 (A := (57, [(0, .ref 5), (1, .ref 3), (2, .ref 64), (3, .ref k3)], [], (I, L))) (B := (65, [(0, .ref 5), (1, .ref 3), (2, .ref 64), (3, .ref k3)], [], (I, L))) h4 rfl ?_
  refine xe_go 2 (s' := (68, [(0, .ref 5), (1, .ref 3), (2, .ref 64), (3, .ref k3)], [.ref k3, .int (0 : Int32), .ref 3], (I, L))) rfl ?_
  refine xe_kf (n := 1) (f := fx_kf 2) rfl (Nat.le_of_ble_eq_true rfl) (List.mem_of_getElem? (i := 1) rfl) (Nat.le_of_ble_eq_true rfl) c3 ?_
  refine xe_vir (n := 3) (f := fx_X7_takeNumber) rfl (Nat.le_of_ble_eq_true rfl) (List.mem_of_getElem? (i := 0) rfl) (Nat.le_of_ble_eq_true rfl) c4 ?_
  refine xe_ar 9 (A := (96, [(0, .ref 5), (1, .ref 3), (2, .ref 64), (3, .ref k3), (4, .int 1)], [], ((xu I4 9 (((I4 5 4)).toInt.toNat) (I4 3 8)), L4))) h5 rfl ?_
  refine xe_go 6 (s' := (107, [(0, .ref 5), (1, .ref 3), (2, .ref 64), (3, .ref k3), (4, .int 1)], [.int (1 : Int32)], ((xu (xu I4 9 (((I4 5 4)).toInt.toNat) (I4 3 8)) 5 4 ((I4 5 4) + (1 : Int32))), L4))) rfl ?_
  exact xe_end rfl rfl rfl
set_option maxRecDepth 100000 in
theorem pt_X4_readRest_7 {k3 : Nat} {I I4 : Nat → Nat → Int32} {L L4 : Nat → Nat → Int64} {r1 r2 r3 : Int32} (c1 : fx_kf 1 [.ref k3] (I, L) (some (.int r1)) (I, L)) (h1 : (xe_cmp .eq r1 (Int32.ofInt (-1))) = true) (c2 : fx_kf 2 [.ref k3] (I, L) (some (.int r2)) (I, L)) (h2 : (xe_cmp .ne r2 (Int32.ofInt (-1))) = false) (h3 : (Nat.beq k3 205) = true) (h4 : (Nat.beq k3 205) = false) (c3 : fx_kf 2 [.ref k3] (I, L) (some (.int r3)) (I, L)) (c4 : fx_X7_takeNumber [.int r3, .int (0 : Int32), .ref 3] (I, L) (some (.int 0)) (I4, L4)) : ∃ n, xr_X4_readRest n (0, [(0, .ref 5), (1, .ref 3), (2, .ref 64), (3, .ref k3)], [], (I, L)) (some (.int (0 : Int32))) (I4, L4) := by
  refine xe_go 0 (s' := (1, [(0, .ref 5), (1, .ref 3), (2, .ref 64), (3, .ref k3)], [.ref k3], (I, L))) rfl ?_
  refine xe_kf (n := 1) (f := fx_kf 1) rfl (Nat.le_of_ble_eq_true rfl) (List.mem_of_getElem? (i := 0) rfl) (Nat.le_of_ble_eq_true rfl) c1 ?_
  refine xe_bT 1 (A := (35, [(0, .ref 5), (1, .ref 3), (2, .ref 64), (3, .ref k3)], [], (I, L))) (B := (8, [(0, .ref 5), (1, .ref 3), (2, .ref 64), (3, .ref k3)], [], (I, L))) h1 rfl ?_
  refine xe_go 0 (s' := (36, [(0, .ref 5), (1, .ref 3), (2, .ref 64), (3, .ref k3)], [.ref k3], (I, L))) rfl ?_
  refine xe_kf (n := 1) (f := fx_kf 2) rfl (Nat.le_of_ble_eq_true rfl) (List.mem_of_getElem? (i := 1) rfl) (Nat.le_of_ble_eq_true rfl) c2 ?_
  refine xe_bF 1 (A := (50, [(0, .ref 5), (1, .ref 3), (2, .ref 64), (3, .ref k3)], [], (I, L))) (B := (43, [(0, .ref 5), (1, .ref 3), (2, .ref 64), (3, .ref k3)], [], (I, L))) h2 rfl ?_
  refine xe_bT 2 (A := (50, [(0, .ref 5), (1, .ref 3), (2, .ref 64), (3, .ref k3)], [], (I, L))) (B := (96, [(0, .ref 5), (1, .ref 3), (2, .ref 64), (3, .ref k3)], [], (I, L))) h3 rfl ?_
  refine xe_bF 2 (A := (57, [(0, .ref 5), (1, .ref 3), (2, .ref 64), (3, .ref k3)], [], (I, L))) (B := (65, [(0, .ref 5), (1, .ref 3), (2, .ref 64), (3, .ref k3)], [], (I, L))) h4 rfl ?_
  refine xe_go 2 (s' := (68, [(0, .ref 5), (1, .ref 3), (2, .ref 64), (3, .ref k3)], [.ref k3, .int (0 : Int32), .ref 3], (I, L))) rfl ?_
  refine xe_kf (n := 1) (f := fx_kf 2) rfl (Nat.le_of_ble_eq_true rfl) (List.mem_of_getElem? (i := 1) rfl) (Nat.le_of_ble_eq_true rfl) c3 ?_
  refine xe_vir (n := 3) (f := fx_X7_takeNumber) rfl (Nat.le_of_ble_eq_true rfl) (List.mem_of_getElem? (i := 0) rfl) (Nat.le_of_ble_eq_true rfl) c4 ?_
  refine xe_go 3 (s' := (82, [(0, .ref 5), (1, .ref 3), (2, .ref 64), (3, .ref k3), (4, .int 0)], [.int (0 : Int32)], (I4, L4))) rfl ?_
  exact xe_end rfl rfl rfl
set_option maxRecDepth 100000 in
theorem pt_X4_readRest_8 {k3 : Nat} {I : Nat → Nat → Int32} {L : Nat → Nat → Int64} {r1 r2 : Int32} (c1 : fx_kf 1 [.ref k3] (I, L) (some (.int r1)) (I, L)) (h1 : (xe_cmp .eq r1 (Int32.ofInt (-1))) = true) (c2 : fx_kf 2 [.ref k3] (I, L) (some (.int r2)) (I, L)) (h2 : (xe_cmp .ne r2 (Int32.ofInt (-1))) = false) (h3 : (Nat.beq k3 205) = false) : ∃ n, xr_X4_readRest n (0, [(0, .ref 5), (1, .ref 3), (2, .ref 64), (3, .ref k3)], [], (I, L)) (some (.int (1 : Int32))) ((xu I 5 4 ((I 5 4) + (1 : Int32))), L) := by
  refine xe_go 0 (s' := (1, [(0, .ref 5), (1, .ref 3), (2, .ref 64), (3, .ref k3)], [.ref k3], (I, L))) rfl ?_
  refine xe_kf (n := 1) (f := fx_kf 1) rfl (Nat.le_of_ble_eq_true rfl) (List.mem_of_getElem? (i := 0) rfl) (Nat.le_of_ble_eq_true rfl) c1 ?_
  refine xe_bT 1 (A := (35, [(0, .ref 5), (1, .ref 3), (2, .ref 64), (3, .ref k3)], [], (I, L))) (B := (8, [(0, .ref 5), (1, .ref 3), (2, .ref 64), (3, .ref k3)], [], (I, L))) h1 rfl ?_
  refine xe_go 0 (s' := (36, [(0, .ref 5), (1, .ref 3), (2, .ref 64), (3, .ref k3)], [.ref k3], (I, L))) rfl ?_
  refine xe_kf (n := 1) (f := fx_kf 2) rfl (Nat.le_of_ble_eq_true rfl) (List.mem_of_getElem? (i := 1) rfl) (Nat.le_of_ble_eq_true rfl) c2 ?_
  refine xe_bF 1 (A := (50, [(0, .ref 5), (1, .ref 3), (2, .ref 64), (3, .ref k3)], [], (I, L))) (B := (43, [(0, .ref 5), (1, .ref 3), (2, .ref 64), (3, .ref k3)], [], (I, L))) h2 rfl ?_
  refine xe_bF 2 (A := (50, [(0, .ref 5), (1, .ref 3), (2, .ref 64), (3, .ref k3)], [], (I, L))) (B := (96, [(0, .ref 5), (1, .ref 3), (2, .ref 64), (3, .ref k3)], [], (I, L))) h3 rfl ?_
  refine xe_go 6 (s' := (107, [(0, .ref 5), (1, .ref 3), (2, .ref 64), (3, .ref k3)], [.int (1 : Int32)], ((xu I 5 4 ((I 5 4) + (1 : Int32))), L))) rfl ?_
  exact xe_end rfl rfl rfl
set_option maxRecDepth 100000 in
theorem pt_X4_readRest_9 {k3 : Nat} {I I3 I5 : Nat → Nat → Int32} {L L3 L5 : Nat → Nat → Int64} {r1 r2 r4 : Int32} (c1 : fx_kf 1 [.ref k3] (I, L) (some (.int r1)) (I, L)) (h1 : (xe_cmp .eq r1 (Int32.ofInt (-1))) = false) (c2 : fx_kf 1 [.ref k3] (I, L) (some (.int r2)) (I, L)) (c3 : fx_X7_takeNumber [.int r2, .int (0 : Int32), .ref 3] (I, L) (some (.int 1)) (I3, L3)) (h2 : xe_ib (I3 5 4) 40 = true) (c4 : fx_kf 2 [.ref k3] ((xu I3 8 (((I3 5 4)).toInt.toNat) (I3 3 8)), L3) (some (.int r4)) ((xu I3 8 (((I3 5 4)).toInt.toNat) (I3 3 8)), L3)) (h3 : (xe_cmp .ne r4 (Int32.ofInt (-1))) = true) (h4 : (Nat.beq k3 205) = true) (c5 : fx_X7_takeMan [.ref 64, .ref 3] ((xu I3 8 (((I3 5 4)).toInt.toNat) (I3 3 8)), L3) (some (.int 1)) (I5, L5)) (h5 : xe_ib (I5 5 4) 40 = true) : ∃ n, xr_X4_readRest n (0, [(0, .ref 5), (1, .ref 3), (2, .ref 64), (3, .ref k3)], [], (I, L)) (some (.int (1 : Int32))) ((xu (xu I5 9 (((I5 5 4)).toInt.toNat) (I5 3 8)) 5 4 ((I5 5 4) + (1 : Int32))), L5) := by
  refine xe_go 0 (s' := (1, [(0, .ref 5), (1, .ref 3), (2, .ref 64), (3, .ref k3)], [.ref k3], (I, L))) rfl ?_
  refine xe_kf (n := 1) (f := fx_kf 1) rfl (Nat.le_of_ble_eq_true rfl) (List.mem_of_getElem? (i := 0) rfl) (Nat.le_of_ble_eq_true rfl) c1 ?_
  refine xe_bF 1 (A := (35, [(0, .ref 5), (1, .ref 3), (2, .ref 64), (3, .ref k3)], [], (I, L))) (B := (8, [(0, .ref 5), (1, .ref 3), (2, .ref 64), (3, .ref k3)], [], (I, L))) h1 rfl ?_
  refine xe_go 2 (s' := (11, [(0, .ref 5), (1, .ref 3), (2, .ref 64), (3, .ref k3)], [.ref k3, .int (0 : Int32), .ref 3], (I, L))) rfl ?_
  refine xe_kf (n := 1) (f := fx_kf 1) rfl (Nat.le_of_ble_eq_true rfl) (List.mem_of_getElem? (i := 0) rfl) (Nat.le_of_ble_eq_true rfl) c2 ?_
  refine xe_vir (n := 3) (f := fx_X7_takeNumber) rfl (Nat.le_of_ble_eq_true rfl) (List.mem_of_getElem? (i := 0) rfl) (Nat.le_of_ble_eq_true rfl) c3 ?_
  refine xe_ar 7 (A := (35, [(0, .ref 5), (1, .ref 3), (2, .ref 64), (3, .ref k3)], [], ((xu I3 8 (((I3 5 4)).toInt.toNat) (I3 3 8)), L3))) h2 rfl ?_
  refine xe_go 0 (s' := (36, [(0, .ref 5), (1, .ref 3), (2, .ref 64), (3, .ref k3)], [.ref k3], ((xu I3 8 (((I3 5 4)).toInt.toNat) (I3 3 8)), L3))) rfl ?_
  refine xe_kf (n := 1) (f := fx_kf 2) rfl (Nat.le_of_ble_eq_true rfl) (List.mem_of_getElem? (i := 1) rfl) (Nat.le_of_ble_eq_true rfl) c4 ?_
  refine xe_bT 1 (A := (50, [(0, .ref 5), (1, .ref 3), (2, .ref 64), (3, .ref k3)], [], ((xu I3 8 (((I3 5 4)).toInt.toNat) (I3 3 8)), L3))) (B := (43, [(0, .ref 5), (1, .ref 3), (2, .ref 64), (3, .ref k3)], [], ((xu I3 8 (((I3 5 4)).toInt.toNat) (I3 3 8)), L3))) h3 rfl ?_
  refine xe_bT 2 (A := (57, [(0, .ref 5), (1, .ref 3), (2, .ref 64), (3, .ref k3)], [], ((xu I3 8 (((I3 5 4)).toInt.toNat) (I3 3 8)), L3))) (B := (65, [(0, .ref 5), (1, .ref 3), (2, .ref 64), (3, .ref k3)], [], ((xu I3 8 (((I3 5 4)).toInt.toNat) (I3 3 8)), L3))) h4 rfl ?_
  refine xe_go 1 (s' := (59, [(0, .ref 5), (1, .ref 3), (2, .ref 64), (3, .ref k3)], [.ref 64, .ref 3], ((xu I3 8 (((I3 5 4)).toInt.toNat) (I3 3 8)), L3))) rfl ?_
  refine xe_vir (n := 2) (f := fx_X7_takeMan) rfl (Nat.le_of_ble_eq_true rfl) (List.mem_of_getElem? (i := 1) rfl) (Nat.le_of_ble_eq_true rfl) c5 ?_
  refine xe_ar 10 (A := (96, [(0, .ref 5), (1, .ref 3), (2, .ref 64), (3, .ref k3), (4, .int 1)], [], ((xu I5 9 (((I5 5 4)).toInt.toNat) (I5 3 8)), L5))) h5 rfl ?_
  refine xe_go 6 (s' := (107, [(0, .ref 5), (1, .ref 3), (2, .ref 64), (3, .ref k3), (4, .int 1)], [.int (1 : Int32)], ((xu (xu I5 9 (((I5 5 4)).toInt.toNat) (I5 3 8)) 5 4 ((I5 5 4) + (1 : Int32))), L5))) rfl ?_
  exact xe_end rfl rfl rfl
set_option maxRecDepth 100000 in
theorem pt_X4_readRest_10 {k3 : Nat} {I I3 I5 : Nat → Nat → Int32} {L L3 L5 : Nat → Nat → Int64} {r1 r2 r4 : Int32} (c1 : fx_kf 1 [.ref k3] (I, L) (some (.int r1)) (I, L)) (h1 : (xe_cmp .eq r1 (Int32.ofInt (-1))) = false) (c2 : fx_kf 1 [.ref k3] (I, L) (some (.int r2)) (I, L)) (c3 : fx_X7_takeNumber [.int r2, .int (0 : Int32), .ref 3] (I, L) (some (.int 1)) (I3, L3)) (h2 : xe_ib (I3 5 4) 40 = true) (c4 : fx_kf 2 [.ref k3] ((xu I3 8 (((I3 5 4)).toInt.toNat) (I3 3 8)), L3) (some (.int r4)) ((xu I3 8 (((I3 5 4)).toInt.toNat) (I3 3 8)), L3)) (h3 : (xe_cmp .ne r4 (Int32.ofInt (-1))) = true) (h4 : (Nat.beq k3 205) = true) (c5 : fx_X7_takeMan [.ref 64, .ref 3] ((xu I3 8 (((I3 5 4)).toInt.toNat) (I3 3 8)), L3) (some (.int 0)) (I5, L5)) : ∃ n, xr_X4_readRest n (0, [(0, .ref 5), (1, .ref 3), (2, .ref 64), (3, .ref k3)], [], (I, L)) (some (.int (0 : Int32))) (I5, L5) := by
  refine xe_go 0 (s' := (1, [(0, .ref 5), (1, .ref 3), (2, .ref 64), (3, .ref k3)], [.ref k3], (I, L))) rfl ?_
  refine xe_kf (n := 1) (f := fx_kf 1) rfl (Nat.le_of_ble_eq_true rfl) (List.mem_of_getElem? (i := 0) rfl) (Nat.le_of_ble_eq_true rfl) c1 ?_
  refine xe_bF 1 (A := (35, [(0, .ref 5), (1, .ref 3), (2, .ref 64), (3, .ref k3)], [], (I, L))) (B := (8, [(0, .ref 5), (1, .ref 3), (2, .ref 64), (3, .ref k3)], [], (I, L))) h1 rfl ?_
  refine xe_go 2 (s' := (11, [(0, .ref 5), (1, .ref 3), (2, .ref 64), (3, .ref k3)], [.ref k3, .int (0 : Int32), .ref 3], (I, L))) rfl ?_
  refine xe_kf (n := 1) (f := fx_kf 1) rfl (Nat.le_of_ble_eq_true rfl) (List.mem_of_getElem? (i := 0) rfl) (Nat.le_of_ble_eq_true rfl) c2 ?_
  refine xe_vir (n := 3) (f := fx_X7_takeNumber) rfl (Nat.le_of_ble_eq_true rfl) (List.mem_of_getElem? (i := 0) rfl) (Nat.le_of_ble_eq_true rfl) c3 ?_
  refine xe_ar 7 (A := (35, [(0, .ref 5), (1, .ref 3), (2, .ref 64), (3, .ref k3)], [], ((xu I3 8 (((I3 5 4)).toInt.toNat) (I3 3 8)), L3))) h2 rfl ?_
  refine xe_go 0 (s' := (36, [(0, .ref 5), (1, .ref 3), (2, .ref 64), (3, .ref k3)], [.ref k3], ((xu I3 8 (((I3 5 4)).toInt.toNat) (I3 3 8)), L3))) rfl ?_
  refine xe_kf (n := 1) (f := fx_kf 2) rfl (Nat.le_of_ble_eq_true rfl) (List.mem_of_getElem? (i := 1) rfl) (Nat.le_of_ble_eq_true rfl) c4 ?_
  refine xe_bT 1 (A := (50, [(0, .ref 5), (1, .ref 3), (2, .ref 64), (3, .ref k3)], [], ((xu I3 8 (((I3 5 4)).toInt.toNat) (I3 3 8)), L3))) (B := (43, [(0, .ref 5), (1, .ref 3), (2, .ref 64), (3, .ref k3)], [], ((xu I3 8 (((I3 5 4)).toInt.toNat) (I3 3 8)), L3))) h3 rfl ?_
  refine xe_bT 2 (A := (57, [(0, .ref 5), (1, .ref 3), (2, .ref 64), (3, .ref k3)], [], ((xu I3 8 (((I3 5 4)).toInt.toNat) (I3 3 8)), L3))) (B := (65, [(0, .ref 5), (1, .ref 3), (2, .ref 64), (3, .ref k3)], [], ((xu I3 8 (((I3 5 4)).toInt.toNat) (I3 3 8)), L3))) h4 rfl ?_
  refine xe_go 1 (s' := (59, [(0, .ref 5), (1, .ref 3), (2, .ref 64), (3, .ref k3)], [.ref 64, .ref 3], ((xu I3 8 (((I3 5 4)).toInt.toNat) (I3 3 8)), L3))) rfl ?_
  refine xe_vir (n := 2) (f := fx_X7_takeMan) rfl (Nat.le_of_ble_eq_true rfl) (List.mem_of_getElem? (i := 1) rfl) (Nat.le_of_ble_eq_true rfl) c5 ?_
  refine xe_go 4 (s' := (82, [(0, .ref 5), (1, .ref 3), (2, .ref 64), (3, .ref k3), (4, .int 0)], [.int (0 : Int32)], (I5, L5))) rfl ?_
  exact xe_end rfl rfl rfl
set_option maxRecDepth 100000 in
theorem pt_X4_readRest_11 {k3 : Nat} {I I3 I6 : Nat → Nat → Int32} {L L3 L6 : Nat → Nat → Int64} {r1 r2 r4 r5 : Int32} (c1 : fx_kf 1 [.ref k3] (I, L) (some (.int r1)) (I, L)) (h1 : (xe_cmp .eq r1 (Int32.ofInt (-1))) = false) (c2 : fx_kf 1 [.ref k3] (I, L) (some (.int r2)) (I, L)) (c3 : fx_X7_takeNumber [.int r2, .int (0 : Int32), .ref 3] (I, L) (some (.int 1)) (I3, L3)) (h2 : xe_ib (I3 5 4) 40 = true) (c4 : fx_kf 2 [.ref k3] ((xu I3 8 (((I3 5 4)).toInt.toNat) (I3 3 8)), L3) (some (.int r4)) ((xu I3 8 (((I3 5 4)).toInt.toNat) (I3 3 8)), L3)) (h3 : (xe_cmp .ne r4 (Int32.ofInt (-1))) = true) (h4 : (Nat.beq k3 205) = false) (c5 : fx_kf 2 [.ref k3] ((xu I3 8 (((I3 5 4)).toInt.toNat) (I3 3 8)), L3) (some (.int r5)) ((xu I3 8 (((I3 5 4)).toInt.toNat) (I3 3 8)), L3)) (c6 : fx_X7_takeNumber [.int r5, .int (0 : Int32), .ref 3] ((xu I3 8 (((I3 5 4)).toInt.toNat) (I3 3 8)), L3) (some (.int 1)) (I6, L6)) (h5 : xe_ib (I6 5 4) 40 = true) : ∃ n, xr_X4_readRest n (0, [(0, .ref 5), (1, .ref 3), (2, .ref 64), (3, .ref k3)], [], (I, L)) (some (.int (1 : Int32))) ((xu (xu I6 9 (((I6 5 4)).toInt.toNat) (I6 3 8)) 5 4 ((I6 5 4) + (1 : Int32))), L6) := by
  refine xe_go 0 (s' := (1, [(0, .ref 5), (1, .ref 3), (2, .ref 64), (3, .ref k3)], [.ref k3], (I, L))) rfl ?_
  refine xe_kf (n := 1) (f := fx_kf 1) rfl (Nat.le_of_ble_eq_true rfl) (List.mem_of_getElem? (i := 0) rfl) (Nat.le_of_ble_eq_true rfl) c1 ?_
  refine xe_bF 1 (A := (35, [(0, .ref 5), (1, .ref 3), (2, .ref 64), (3, .ref k3)], [], (I, L))) (B := (8, [(0, .ref 5), (1, .ref 3), (2, .ref 64), (3, .ref k3)], [], (I, L))) h1 rfl ?_
  refine xe_go 2 (s' := (11, [(0, .ref 5), (1, .ref 3), (2, .ref 64), (3, .ref k3)], [.ref k3, .int (0 : Int32), .ref 3], (I, L))) rfl ?_
  refine xe_kf (n := 1) (f := fx_kf 1) rfl (Nat.le_of_ble_eq_true rfl) (List.mem_of_getElem? (i := 0) rfl) (Nat.le_of_ble_eq_true rfl) c2 ?_
  refine xe_vir (n := 3) (f := fx_X7_takeNumber) rfl (Nat.le_of_ble_eq_true rfl) (List.mem_of_getElem? (i := 0) rfl) (Nat.le_of_ble_eq_true rfl) c3 ?_
  refine xe_ar 7 (A := (35, [(0, .ref 5), (1, .ref 3), (2, .ref 64), (3, .ref k3)], [], ((xu I3 8 (((I3 5 4)).toInt.toNat) (I3 3 8)), L3))) h2 rfl ?_
  refine xe_go 0 (s' := (36, [(0, .ref 5), (1, .ref 3), (2, .ref 64), (3, .ref k3)], [.ref k3], ((xu I3 8 (((I3 5 4)).toInt.toNat) (I3 3 8)), L3))) rfl ?_
  refine xe_kf (n := 1) (f := fx_kf 2) rfl (Nat.le_of_ble_eq_true rfl) (List.mem_of_getElem? (i := 1) rfl) (Nat.le_of_ble_eq_true rfl) c4 ?_
  refine xe_bT 1 (A := (50, [(0, .ref 5), (1, .ref 3), (2, .ref 64), (3, .ref k3)], [], ((xu I3 8 (((I3 5 4)).toInt.toNat) (I3 3 8)), L3))) (B := (43, [(0, .ref 5), (1, .ref 3), (2, .ref 64), (3, .ref k3)], [], ((xu I3 8 (((I3 5 4)).toInt.toNat) (I3 3 8)), L3))) h3 rfl ?_
  refine xe_bF 2 (A := (57, [(0, .ref 5), (1, .ref 3), (2, .ref 64), (3, .ref k3)], [], ((xu I3 8 (((I3 5 4)).toInt.toNat) (I3 3 8)), L3))) (B := (65, [(0, .ref 5), (1, .ref 3), (2, .ref 64), (3, .ref k3)], [], ((xu I3 8 (((I3 5 4)).toInt.toNat) (I3 3 8)), L3))) h4 rfl ?_
  refine xe_go 2 (s' := (68, [(0, .ref 5), (1, .ref 3), (2, .ref 64), (3, .ref k3)], [.ref k3, .int (0 : Int32), .ref 3], ((xu I3 8 (((I3 5 4)).toInt.toNat) (I3 3 8)), L3))) rfl ?_
  refine xe_kf (n := 1) (f := fx_kf 2) rfl (Nat.le_of_ble_eq_true rfl) (List.mem_of_getElem? (i := 1) rfl) (Nat.le_of_ble_eq_true rfl) c5 ?_
  refine xe_vir (n := 3) (f := fx_X7_takeNumber) rfl (Nat.le_of_ble_eq_true rfl) (List.mem_of_getElem? (i := 0) rfl) (Nat.le_of_ble_eq_true rfl) c6 ?_
  refine xe_ar 9 (A := (96, [(0, .ref 5), (1, .ref 3), (2, .ref 64), (3, .ref k3), (4, .int 1)], [], ((xu I6 9 (((I6 5 4)).toInt.toNat) (I6 3 8)), L6))) h5 rfl ?_
  refine xe_go 6 (s' := (107, [(0, .ref 5), (1, .ref 3), (2, .ref 64), (3, .ref k3), (4, .int 1)], [.int (1 : Int32)], ((xu (xu I6 9 (((I6 5 4)).toInt.toNat) (I6 3 8)) 5 4 ((I6 5 4) + (1 : Int32))), L6))) rfl ?_
  exact xe_end rfl rfl rfl
set_option maxRecDepth 100000 in
theorem pt_X4_readRest_12 {k3 : Nat} {I I3 I6 : Nat → Nat → Int32} {L L3 L6 : Nat → Nat → Int64} {r1 r2 r4 r5 : Int32} (c1 : fx_kf 1 [.ref k3] (I, L) (some (.int r1)) (I, L)) (h1 : (xe_cmp .eq r1 (Int32.ofInt (-1))) = false) (c2 : fx_kf 1 [.ref k3] (I, L) (some (.int r2)) (I, L)) (c3 : fx_X7_takeNumber [.int r2, .int (0 : Int32), .ref 3] (I, L) (some (.int 1)) (I3, L3)) (h2 : xe_ib (I3 5 4) 40 = true) (c4 : fx_kf 2 [.ref k3] ((xu I3 8 (((I3 5 4)).toInt.toNat) (I3 3 8)), L3) (some (.int r4)) ((xu I3 8 (((I3 5 4)).toInt.toNat) (I3 3 8)), L3)) (h3 : (xe_cmp .ne r4 (Int32.ofInt (-1))) = true) (h4 : (Nat.beq k3 205) = false) (c5 : fx_kf 2 [.ref k3] ((xu I3 8 (((I3 5 4)).toInt.toNat) (I3 3 8)), L3) (some (.int r5)) ((xu I3 8 (((I3 5 4)).toInt.toNat) (I3 3 8)), L3)) (c6 : fx_X7_takeNumber [.int r5, .int (0 : Int32), .ref 3] ((xu I3 8 (((I3 5 4)).toInt.toNat) (I3 3 8)), L3) (some (.int 0)) (I6, L6)) : ∃ n, xr_X4_readRest n (0, [(0, .ref 5), (1, .ref 3), (2, .ref 64), (3, .ref k3)], [], (I, L)) (some (.int (0 : Int32))) (I6, L6) := by
  refine xe_go 0 (s' := (1, [(0, .ref 5), (1, .ref 3), (2, .ref 64), (3, .ref k3)], [.ref k3], (I, L))) rfl ?_
  refine xe_kf (n := 1) (f := fx_kf 1) rfl (Nat.le_of_ble_eq_true rfl) (List.mem_of_getElem? (i := 0) rfl) (Nat.le_of_ble_eq_true rfl) c1 ?_
  refine xe_bF 1 (A := (35, [(0, .ref 5), (1, .ref 3), (2, .ref 64), (3, .ref k3)], [], (I, L))) (B := (8, [(0, .ref 5), (1, .ref 3), (2, .ref 64), (3, .ref k3)], [], (I, L))) h1 rfl ?_
  refine xe_go 2 (s' := (11, [(0, .ref 5), (1, .ref 3), (2, .ref 64), (3, .ref k3)], [.ref k3, .int (0 : Int32), .ref 3], (I, L))) rfl ?_
  refine xe_kf (n := 1) (f := fx_kf 1) rfl (Nat.le_of_ble_eq_true rfl) (List.mem_of_getElem? (i := 0) rfl) (Nat.le_of_ble_eq_true rfl) c2 ?_
  refine xe_vir (n := 3) (f := fx_X7_takeNumber) rfl (Nat.le_of_ble_eq_true rfl) (List.mem_of_getElem? (i := 0) rfl) (Nat.le_of_ble_eq_true rfl) c3 ?_
  refine xe_ar 7 (A := (35, [(0, .ref 5), (1, .ref 3), (2, .ref 64), (3, .ref k3)], [], ((xu I3 8 (((I3 5 4)).toInt.toNat) (I3 3 8)), L3))) h2 rfl ?_
  refine xe_go 0 (s' := (36, [(0, .ref 5), (1, .ref 3), (2, .ref 64), (3, .ref k3)], [.ref k3], ((xu I3 8 (((I3 5 4)).toInt.toNat) (I3 3 8)), L3))) rfl ?_
  refine xe_kf (n := 1) (f := fx_kf 2) rfl (Nat.le_of_ble_eq_true rfl) (List.mem_of_getElem? (i := 1) rfl) (Nat.le_of_ble_eq_true rfl) c4 ?_
  refine xe_bT 1 (A := (50, [(0, .ref 5), (1, .ref 3), (2, .ref 64), (3, .ref k3)], [], ((xu I3 8 (((I3 5 4)).toInt.toNat) (I3 3 8)), L3))) (B := (43, [(0, .ref 5), (1, .ref 3), (2, .ref 64), (3, .ref k3)], [], ((xu I3 8 (((I3 5 4)).toInt.toNat) (I3 3 8)), L3))) h3 rfl ?_
  refine xe_bF 2 (A := (57, [(0, .ref 5), (1, .ref 3), (2, .ref 64), (3, .ref k3)], [], ((xu I3 8 (((I3 5 4)).toInt.toNat) (I3 3 8)), L3))) (B := (65, [(0, .ref 5), (1, .ref 3), (2, .ref 64), (3, .ref k3)], [], ((xu I3 8 (((I3 5 4)).toInt.toNat) (I3 3 8)), L3))) h4 rfl ?_
  refine xe_go 2 (s' := (68, [(0, .ref 5), (1, .ref 3), (2, .ref 64), (3, .ref k3)], [.ref k3, .int (0 : Int32), .ref 3], ((xu I3 8 (((I3 5 4)).toInt.toNat) (I3 3 8)), L3))) rfl ?_
  refine xe_kf (n := 1) (f := fx_kf 2) rfl (Nat.le_of_ble_eq_true rfl) (List.mem_of_getElem? (i := 1) rfl) (Nat.le_of_ble_eq_true rfl) c5 ?_
  refine xe_vir (n := 3) (f := fx_X7_takeNumber) rfl (Nat.le_of_ble_eq_true rfl) (List.mem_of_getElem? (i := 0) rfl) (Nat.le_of_ble_eq_true rfl) c6 ?_
  refine xe_go 3 (s' := (82, [(0, .ref 5), (1, .ref 3), (2, .ref 64), (3, .ref k3), (4, .int 0)], [.int (0 : Int32)], (I6, L6))) rfl ?_
  exact xe_end rfl rfl rfl
set_option maxRecDepth 100000 in
theorem pt_X4_readRest_13 {k3 : Nat} {I I3 I5 : Nat → Nat → Int32} {L L3 L5 : Nat → Nat → Int64} {r1 r2 r4 : Int32} (c1 : fx_kf 1 [.ref k3] (I, L) (some (.int r1)) (I, L)) (h1 : (xe_cmp .eq r1 (Int32.ofInt (-1))) = false) (c2 : fx_kf 1 [.ref k3] (I, L) (some (.int r2)) (I, L)) (c3 : fx_X7_takeNumber [.int r2, .int (0 : Int32), .ref 3] (I, L) (some (.int 1)) (I3, L3)) (h2 : xe_ib (I3 5 4) 40 = true) (c4 : fx_kf 2 [.ref k3] ((xu I3 8 (((I3 5 4)).toInt.toNat) (I3 3 8)), L3) (some (.int r4)) ((xu I3 8 (((I3 5 4)).toInt.toNat) (I3 3 8)), L3)) (h3 : (xe_cmp .ne r4 (Int32.ofInt (-1))) = false) (h4 : (Nat.beq k3 205) = true) (h5 : (Nat.beq k3 205) = true) (c5 : fx_X7_takeMan [.ref 64, .ref 3] ((xu I3 8 (((I3 5 4)).toInt.toNat) (I3 3 8)), L3) (some (.int 1)) (I5, L5)) (h6 : xe_ib (I5 5 4) 40 = true) : ∃ n, xr_X4_readRest n (0, [(0, .ref 5), (1, .ref 3), (2, .ref 64), (3, .ref k3)], [], (I, L)) (some (.int (1 : Int32))) ((xu (xu I5 9 (((I5 5 4)).toInt.toNat) (I5 3 8)) 5 4 ((I5 5 4) + (1 : Int32))), L5) := by
  refine xe_go 0 (s' := (1, [(0, .ref 5), (1, .ref 3), (2, .ref 64), (3, .ref k3)], [.ref k3], (I, L))) rfl ?_
  refine xe_kf (n := 1) (f := fx_kf 1) rfl (Nat.le_of_ble_eq_true rfl) (List.mem_of_getElem? (i := 0) rfl) (Nat.le_of_ble_eq_true rfl) c1 ?_
  refine xe_bF 1 (A := (35, [(0, .ref 5), (1, .ref 3), (2, .ref 64), (3, .ref k3)], [], (I, L))) (B := (8, [(0, .ref 5), (1, .ref 3), (2, .ref 64), (3, .ref k3)], [], (I, L))) h1 rfl ?_
  refine xe_go 2 (s' := (11, [(0, .ref 5), (1, .ref 3), (2, .ref 64), (3, .ref k3)], [.ref k3, .int (0 : Int32), .ref 3], (I, L))) rfl ?_
  refine xe_kf (n := 1) (f := fx_kf 1) rfl (Nat.le_of_ble_eq_true rfl) (List.mem_of_getElem? (i := 0) rfl) (Nat.le_of_ble_eq_true rfl) c2 ?_
  refine xe_vir (n := 3) (f := fx_X7_takeNumber) rfl (Nat.le_of_ble_eq_true rfl) (List.mem_of_getElem? (i := 0) rfl) (Nat.le_of_ble_eq_true rfl) c3 ?_
  refine xe_ar 7 (A := (35, [(0, .ref 5), (1, .ref 3), (2, .ref 64), (3, .ref k3)], [], ((xu I3 8 (((I3 5 4)).toInt.toNat) (I3 3 8)), L3))) h2 rfl ?_
  refine xe_go 0 (s' := (36, [(0, .ref 5), (1, .ref 3), (2, .ref 64), (3, .ref k3)], [.ref k3], ((xu I3 8 (((I3 5 4)).toInt.toNat) (I3 3 8)), L3))) rfl ?_
  refine xe_kf (n := 1) (f := fx_kf 2) rfl (Nat.le_of_ble_eq_true rfl) (List.mem_of_getElem? (i := 1) rfl) (Nat.le_of_ble_eq_true rfl) c4 ?_
  refine xe_bF 1 (A := (50, [(0, .ref 5), (1, .ref 3), (2, .ref 64), (3, .ref k3)], [], ((xu I3 8 (((I3 5 4)).toInt.toNat) (I3 3 8)), L3))) (B := (43, [(0, .ref 5), (1, .ref 3), (2, .ref 64), (3, .ref k3)], [], ((xu I3 8 (((I3 5 4)).toInt.toNat) (I3 3 8)), L3))) h3 rfl ?_
  refine xe_bT 2 (A := (50, [(0, .ref 5), (1, .ref 3), (2, .ref 64), (3, .ref k3)], [], ((xu I3 8 (((I3 5 4)).toInt.toNat) (I3 3 8)), L3))) (B := (96, [(0, .ref 5), (1, .ref 3), (2, .ref 64), (3, .ref k3)], [], ((xu I3 8 (((I3 5 4)).toInt.toNat) (I3 3 8)), L3))) h4 rfl ?_
  refine xe_bT 2 (A := (57, [(0, .ref 5), (1, .ref 3), (2, .ref 64), (3, .ref k3)], [], ((xu I3 8 (((I3 5 4)).toInt.toNat) (I3 3 8)), L3))) (B := (65, [(0, .ref 5), (1, .ref 3), (2, .ref 64), (3, .ref k3)], [], ((xu I3 8 (((I3 5 4)).toInt.toNat) (I3 3 8)), L3))) h5 rfl ?_
  refine xe_go 1 (s' := (59, [(0, .ref 5), (1, .ref 3), (2, .ref 64), (3, .ref k3)], [.ref 64, .ref 3], ((xu I3 8 (((I3 5 4)).toInt.toNat) (I3 3 8)), L3))) rfl ?_
  refine xe_vir (n := 2) (f := fx_X7_takeMan) rfl (Nat.le_of_ble_eq_true rfl) (List.mem_of_getElem? (i := 1) rfl) (Nat.le_of_ble_eq_true rfl) c5 ?_
  refine xe_ar 10 (A := (96, [(0, .ref 5), (1, .ref 3), (2, .ref 64), (3, .ref k3), (4, .int 1)], [], ((xu I5 9 (((I5 5 4)).toInt.toNat) (I5 3 8)), L5))) h6 rfl ?_
  refine xe_go 6 (s' := (107, [(0, .ref 5), (1, .ref 3), (2, .ref 64), (3, .ref k3), (4, .int 1)], [.int (1 : Int32)], ((xu (xu I5 9 (((I5 5 4)).toInt.toNat) (I5 3 8)) 5 4 ((I5 5 4) + (1 : Int32))), L5))) rfl ?_
  exact xe_end rfl rfl rfl
set_option maxRecDepth 100000 in
theorem pt_X4_readRest_14 {k3 : Nat} {I I3 I5 : Nat → Nat → Int32} {L L3 L5 : Nat → Nat → Int64} {r1 r2 r4 : Int32} (c1 : fx_kf 1 [.ref k3] (I, L) (some (.int r1)) (I, L)) (h1 : (xe_cmp .eq r1 (Int32.ofInt (-1))) = false) (c2 : fx_kf 1 [.ref k3] (I, L) (some (.int r2)) (I, L)) (c3 : fx_X7_takeNumber [.int r2, .int (0 : Int32), .ref 3] (I, L) (some (.int 1)) (I3, L3)) (h2 : xe_ib (I3 5 4) 40 = true) (c4 : fx_kf 2 [.ref k3] ((xu I3 8 (((I3 5 4)).toInt.toNat) (I3 3 8)), L3) (some (.int r4)) ((xu I3 8 (((I3 5 4)).toInt.toNat) (I3 3 8)), L3)) (h3 : (xe_cmp .ne r4 (Int32.ofInt (-1))) = false) (h4 : (Nat.beq k3 205) = true) (h5 : (Nat.beq k3 205) = true) (c5 : fx_X7_takeMan [.ref 64, .ref 3] ((xu I3 8 (((I3 5 4)).toInt.toNat) (I3 3 8)), L3) (some (.int 0)) (I5, L5)) : ∃ n, xr_X4_readRest n (0, [(0, .ref 5), (1, .ref 3), (2, .ref 64), (3, .ref k3)], [], (I, L)) (some (.int (0 : Int32))) (I5, L5) := by
  refine xe_go 0 (s' := (1, [(0, .ref 5), (1, .ref 3), (2, .ref 64), (3, .ref k3)], [.ref k3], (I, L))) rfl ?_
  refine xe_kf (n := 1) (f := fx_kf 1) rfl (Nat.le_of_ble_eq_true rfl) (List.mem_of_getElem? (i := 0) rfl) (Nat.le_of_ble_eq_true rfl) c1 ?_
  refine xe_bF 1 (A := (35, [(0, .ref 5), (1, .ref 3), (2, .ref 64), (3, .ref k3)], [], (I, L))) (B := (8, [(0, .ref 5), (1, .ref 3), (2, .ref 64), (3, .ref k3)], [], (I, L))) h1 rfl ?_
  refine xe_go 2 (s' := (11, [(0, .ref 5), (1, .ref 3), (2, .ref 64), (3, .ref k3)], [.ref k3, .int (0 : Int32), .ref 3], (I, L))) rfl ?_
  refine xe_kf (n := 1) (f := fx_kf 1) rfl (Nat.le_of_ble_eq_true rfl) (List.mem_of_getElem? (i := 0) rfl) (Nat.le_of_ble_eq_true rfl) c2 ?_
  refine xe_vir (n := 3) (f := fx_X7_takeNumber) rfl (Nat.le_of_ble_eq_true rfl) (List.mem_of_getElem? (i := 0) rfl) (Nat.le_of_ble_eq_true rfl) c3 ?_
  refine xe_ar 7 (A := (35, [(0, .ref 5), (1, .ref 3), (2, .ref 64), (3, .ref k3)], [], ((xu I3 8 (((I3 5 4)).toInt.toNat) (I3 3 8)), L3))) h2 rfl ?_
  refine xe_go 0 (s' := (36, [(0, .ref 5), (1, .ref 3), (2, .ref 64), (3, .ref k3)], [.ref k3], ((xu I3 8 (((I3 5 4)).toInt.toNat) (I3 3 8)), L3))) rfl ?_
  refine xe_kf (n := 1) (f := fx_kf 2) rfl (Nat.le_of_ble_eq_true rfl) (List.mem_of_getElem? (i := 1) rfl) (Nat.le_of_ble_eq_true rfl) c4 ?_
  refine xe_bF 1 (A := (50, [(0, .ref 5), (1, .ref 3), (2, .ref 64), (3, .ref k3)], [], ((xu I3 8 (((I3 5 4)).toInt.toNat) (I3 3 8)), L3))) (B := (43, [(0, .ref 5), (1, .ref 3), (2, .ref 64), (3, .ref k3)], [], ((xu I3 8 (((I3 5 4)).toInt.toNat) (I3 3 8)), L3))) h3 rfl ?_
  refine xe_bT 2 (A := (50, [(0, .ref 5), (1, .ref 3), (2, .ref 64), (3, .ref k3)], [], ((xu I3 8 (((I3 5 4)).toInt.toNat) (I3 3 8)), L3))) (B := (96, [(0, .ref 5), (1, .ref 3), (2, .ref 64), (3, .ref k3)], [], ((xu I3 8 (((I3 5 4)).toInt.toNat) (I3 3 8)), L3))) h4 rfl ?_
  refine xe_bT 2 (A := (57, [(0, .ref 5), (1, .ref 3), (2, .ref 64), (3, .ref k3)], [], ((xu I3 8 (((I3 5 4)).toInt.toNat) (I3 3 8)), L3))) (B := (65, [(0, .ref 5), (1, .ref 3), (2, .ref 64), (3, .ref k3)], [], ((xu I3 8 (((I3 5 4)).toInt.toNat) (I3 3 8)), L3))) h5 rfl ?_
  refine xe_go 1 (s' := (59, [(0, .ref 5), (1, .ref 3), (2, .ref 64), (3, .ref k3)], [.ref 64, .ref 3], ((xu I3 8 (((I3 5 4)).toInt.toNat) (I3 3 8)), L3))) rfl ?_
  refine xe_vir (n := 2) (f := fx_X7_takeMan) rfl (Nat.le_of_ble_eq_true rfl) (List.mem_of_getElem? (i := 1) rfl) (Nat.le_of_ble_eq_true rfl) c5 ?_
  refine xe_go 4 (s' := (82, [(0, .ref 5), (1, .ref 3), (2, .ref 64), (3, .ref k3), (4, .int 0)], [.int (0 : Int32)], (I5, L5))) rfl ?_
  exact xe_end rfl rfl rfl
set_option maxRecDepth 100000 in
theorem pt_X4_readRest_15 {k3 : Nat} {I I3 I6 : Nat → Nat → Int32} {L L3 L6 : Nat → Nat → Int64} {r1 r2 r4 r5 : Int32} (c1 : fx_kf 1 [.ref k3] (I, L) (some (.int r1)) (I, L)) (h1 : (xe_cmp .eq r1 (Int32.ofInt (-1))) = false) (c2 : fx_kf 1 [.ref k3] (I, L) (some (.int r2)) (I, L)) (c3 : fx_X7_takeNumber [.int r2, .int (0 : Int32), .ref 3] (I, L) (some (.int 1)) (I3, L3)) (h2 : xe_ib (I3 5 4) 40 = true) (c4 : fx_kf 2 [.ref k3] ((xu I3 8 (((I3 5 4)).toInt.toNat) (I3 3 8)), L3) (some (.int r4)) ((xu I3 8 (((I3 5 4)).toInt.toNat) (I3 3 8)), L3)) (h3 : (xe_cmp .ne r4 (Int32.ofInt (-1))) = false) (h4 : (Nat.beq k3 205) = true) (h5 : (Nat.beq k3 205) = false) (c5 : fx_kf 2 [.ref k3] ((xu I3 8 (((I3 5 4)).toInt.toNat) (I3 3 8)), L3) (some (.int r5)) ((xu I3 8 (((I3 5 4)).toInt.toNat) (I3 3 8)), L3)) (c6 : fx_X7_takeNumber [.int r5, .int (0 : Int32), .ref 3] ((xu I3 8 (((I3 5 4)).toInt.toNat) (I3 3 8)), L3) (some (.int 1)) (I6, L6)) (h6 : xe_ib (I6 5 4) 40 = true) : ∃ n, xr_X4_readRest n (0, [(0, .ref 5), (1, .ref 3), (2, .ref 64), (3, .ref k3)], [], (I, L)) (some (.int (1 : Int32))) ((xu (xu I6 9 (((I6 5 4)).toInt.toNat) (I6 3 8)) 5 4 ((I6 5 4) + (1 : Int32))), L6) := by
  refine xe_go 0 (s' := (1, [(0, .ref 5), (1, .ref 3), (2, .ref 64), (3, .ref k3)], [.ref k3], (I, L))) rfl ?_
  refine xe_kf (n := 1) (f := fx_kf 1) rfl (Nat.le_of_ble_eq_true rfl) (List.mem_of_getElem? (i := 0) rfl) (Nat.le_of_ble_eq_true rfl) c1 ?_
  refine xe_bF 1 (A := (35, [(0, .ref 5), (1, .ref 3), (2, .ref 64), (3, .ref k3)], [], (I, L))) (B := (8, [(0, .ref 5), (1, .ref 3), (2, .ref 64), (3, .ref k3)], [], (I, L))) h1 rfl ?_
  refine xe_go 2 (s' := (11, [(0, .ref 5), (1, .ref 3), (2, .ref 64), (3, .ref k3)], [.ref k3, .int (0 : Int32), .ref 3], (I, L))) rfl ?_
  refine xe_kf (n := 1) (f := fx_kf 1) rfl (Nat.le_of_ble_eq_true rfl) (List.mem_of_getElem? (i := 0) rfl) (Nat.le_of_ble_eq_true rfl) c2 ?_
  refine xe_vir (n := 3) (f := fx_X7_takeNumber) rfl (Nat.le_of_ble_eq_true rfl) (List.mem_of_getElem? (i := 0) rfl) (Nat.le_of_ble_eq_true rfl) c3 ?_
  refine xe_ar 7 (A := (35, [(0, .ref 5), (1, .ref 3), (2, .ref 64), (3, .ref k3)], [], ((xu I3 8 (((I3 5 4)).toInt.toNat) (I3 3 8)), L3))) h2 rfl ?_
  refine xe_go 0 (s' := (36, [(0, .ref 5), (1, .ref 3), (2, .ref 64), (3, .ref k3)], [.ref k3], ((xu I3 8 (((I3 5 4)).toInt.toNat) (I3 3 8)), L3))) rfl ?_
  refine xe_kf (n := 1) (f := fx_kf 2) rfl (Nat.le_of_ble_eq_true rfl) (List.mem_of_getElem? (i := 1) rfl) (Nat.le_of_ble_eq_true rfl) c4 ?_
  refine xe_bF 1 (A := (50, [(0, .ref 5), (1, .ref 3), (2, .ref 64), (3, .ref k3)], [], ((xu I3 8 (((I3 5 4)).toInt.toNat) (I3 3 8)), L3))) (B := (43, [(0, .ref 5), (1, .ref 3), (2, .ref 64), (3, .ref k3)], [], ((xu I3 8 (((I3 5 4)).toInt.toNat) (I3 3 8)), L3))) h3 rfl ?_
  refine xe_bT 2 (A := (50, [(0, .ref 5), (1, .ref 3), (2, .ref 64), (3, .ref k3)], [], ((xu I3 8 (((I3 5 4)).toInt.toNat) (I3 3 8)), L3))) (B := (96, [(0, .ref 5), (1, .ref 3), (2, .ref 64), (3, .ref k3)], [], ((xu I3 8 (((I3 5 4)).toInt.toNat) (I3 3 8)), L3))) h4 rfl ?_
  refine xe_bF 2 (A := (57, [(0, .ref 5), (1, .ref 3), (2, .ref 64), (3, .ref k3)], [], ((xu I3 8 (((I3 5 4)).toInt.toNat) (I3 3 8)), L3))) (B := (65, [(0, .ref 5), (1, .ref 3), (2, .ref 64), (3, .ref k3)], [], ((xu I3 8 (((I3 5 4)).toInt.toNat) (I3 3 8)), L3))) h5 rfl ?_
  refine xe_go 2 (s' := (68, [(0, .ref 5), (1, .ref 3), (2, .ref 64), (3, .ref k3)], [.ref k3, .int (0 : Int32), .ref 3], ((xu I3 8 (((I3 5 4)).toInt.toNat) (I3 3 8)), L3))) rfl ?_
  refine xe_kf (n := 1) (f := fx_kf 2) rfl (Nat.le_of_ble_eq_true rfl) (List.mem_of_getElem? (i := 1) rfl) (Nat.le_of_ble_eq_true rfl) c5 ?_
  refine xe_vir (n := 3) (f := fx_X7_takeNumber) rfl (Nat.le_of_ble_eq_true rfl) (List.mem_of_getElem? (i := 0) rfl) (Nat.le_of_ble_eq_true rfl) c6 ?_
  refine xe_ar 9 (A := (96, [(0, .ref 5), (1, .ref 3), (2, .ref 64), (3, .ref k3), (4, .int 1)], [], ((xu I6 9 (((I6 5 4)).toInt.toNat) (I6 3 8)), L6))) h6 rfl ?_
  refine xe_go 6 (s' := (107, [(0, .ref 5), (1, .ref 3), (2, .ref 64), (3, .ref k3), (4, .int 1)], [.int (1 : Int32)], ((xu (xu I6 9 (((I6 5 4)).toInt.toNat) (I6 3 8)) 5 4 ((I6 5 4) + (1 : Int32))), L6))) rfl ?_
  exact xe_end rfl rfl rfl
set_option maxRecDepth 100000 in
theorem pt_X4_readRest_16 {k3 : Nat} {I I3 I6 : Nat → Nat → Int32} {L L3 L6 : Nat → Nat → Int64} {r1 r2 r4 r5 : Int32} (c1 : fx_kf 1 [.ref k3] (I, L) (some (.int r1)) (I, L)) (h1 : (xe_cmp .eq r1 (Int32.ofInt (-1))) = false) (c2 : fx_kf 1 [.ref k3] (I, L) (some (.int r2)) (I, L)) (c3 : fx_X7_takeNumber [.int r2, .int (0 : Int32), .ref 3] (I, L) (some (.int 1)) (I3, L3)) (h2 : xe_ib (I3 5 4) 40 = true) (c4 : fx_kf 2 [.ref k3] ((xu I3 8 (((I3 5 4)).toInt.toNat) (I3 3 8)), L3) (some (.int r4)) ((xu I3 8 (((I3 5 4)).toInt.toNat) (I3 3 8)), L3)) (h3 : (xe_cmp .ne r4 (Int32.ofInt (-1))) = false) (h4 : (Nat.beq k3 205) = true) (h5 : (Nat.beq k3 205) = false) (c5 : fx_kf 2 [.ref k3] ((xu I3 8 (((I3 5 4)).toInt.toNat) (I3 3 8)), L3) (some (.int r5)) ((xu I3 8 (((I3 5 4)).toInt.toNat) (I3 3 8)), L3)) (c6 : fx_X7_takeNumber [.int r5, .int (0 : Int32), .ref 3] ((xu I3 8 (((I3 5 4)).toInt.toNat) (I3 3 8)), L3) (some (.int 0)) (I6, L6)) : ∃ n, xr_X4_readRest n (0, [(0, .ref 5), (1, .ref 3), (2, .ref 64), (3, .ref k3)], [], (I, L)) (some (.int (0 : Int32))) (I6, L6) := by
  refine xe_go 0 (s' := (1, [(0, .ref 5), (1, .ref 3), (2, .ref 64), (3, .ref k3)], [.ref k3], (I, L))) rfl ?_
  refine xe_kf (n := 1) (f := fx_kf 1) rfl (Nat.le_of_ble_eq_true rfl) (List.mem_of_getElem? (i := 0) rfl) (Nat.le_of_ble_eq_true rfl) c1 ?_
  refine xe_bF 1 (A := (35, [(0, .ref 5), (1, .ref 3), (2, .ref 64), (3, .ref k3)], [], (I, L))) (B := (8, [(0, .ref 5), (1, .ref 3), (2, .ref 64), (3, .ref k3)], [], (I, L))) h1 rfl ?_
  refine xe_go 2 (s' := (11, [(0, .ref 5), (1, .ref 3), (2, .ref 64), (3, .ref k3)], [.ref k3, .int (0 : Int32), .ref 3], (I, L))) rfl ?_
  refine xe_kf (n := 1) (f := fx_kf 1) rfl (Nat.le_of_ble_eq_true rfl) (List.mem_of_getElem? (i := 0) rfl) (Nat.le_of_ble_eq_true rfl) c2 ?_
  refine xe_vir (n := 3) (f := fx_X7_takeNumber) rfl (Nat.le_of_ble_eq_true rfl) (List.mem_of_getElem? (i := 0) rfl) (Nat.le_of_ble_eq_true rfl) c3 ?_
  refine xe_ar 7 (A := (35, [(0, .ref 5), (1, .ref 3), (2, .ref 64), (3, .ref k3)], [], ((xu I3 8 (((I3 5 4)).toInt.toNat) (I3 3 8)), L3))) h2 rfl ?_
  refine xe_go 0 (s' := (36, [(0, .ref 5), (1, .ref 3), (2, .ref 64), (3, .ref k3)], [.ref k3], ((xu I3 8 (((I3 5 4)).toInt.toNat) (I3 3 8)), L3))) rfl ?_
  refine xe_kf (n := 1) (f := fx_kf 2) rfl (Nat.le_of_ble_eq_true rfl) (List.mem_of_getElem? (i := 1) rfl) (Nat.le_of_ble_eq_true rfl) c4 ?_
  refine xe_bF 1 (A := (50, [(0, .ref 5), (1, .ref 3), (2, .ref 64), (3, .ref k3)], [], ((xu I3 8 (((I3 5 4)).toInt.toNat) (I3 3 8)), L3))) (B := (43, [(0, .ref 5), (1, .ref 3), (2, .ref 64), (3, .ref k3)], [], ((xu I3 8 (((I3 5 4)).toInt.toNat) (I3 3 8)), L3))) h3 rfl ?_
  refine xe_bT 2 (A := (50, [(0, .ref 5), (1, .ref 3), (2, .ref 64), (3, .ref k3)], [], ((xu I3 8 (((I3 5 4)).toInt.toNat) (I3 3 8)), L3))) (B := (96, [(0, .ref 5), (1, .ref 3), (2, .ref 64), (3, .ref k3)], [], ((xu I3 8 (((I3 5 4)).toInt.toNat) (I3 3 8)), L3))) h4 rfl ?_
  refine xe_bF 2 (A := (57, [(0, .ref 5), (1, .ref 3), (2, .ref 64), (3, .ref k3)], [], ((xu I3 8 (((I3 5 4)).toInt.toNat) (I3 3 8)), L3))) (B := (65, [(0, .ref 5), (1, .ref 3), (2, .ref 64), (3, .ref k3)], [], ((xu I3 8 (((I3 5 4)).toInt.toNat) (I3 3 8)), L3))) h5 rfl ?_
  refine xe_go 2 (s' := (68, [(0, .ref 5), (1, .ref 3), (2, .ref 64), (3, .ref k3)], [.ref k3, .int (0 : Int32), .ref 3], ((xu I3 8 (((I3 5 4)).toInt.toNat) (I3 3 8)), L3))) rfl ?_
  refine xe_kf (n := 1) (f := fx_kf 2) rfl (Nat.le_of_ble_eq_true rfl) (List.mem_of_getElem? (i := 1) rfl) (Nat.le_of_ble_eq_true rfl) c5 ?_
  refine xe_vir (n := 3) (f := fx_X7_takeNumber) rfl (Nat.le_of_ble_eq_true rfl) (List.mem_of_getElem? (i := 0) rfl) (Nat.le_of_ble_eq_true rfl) c6 ?_
  refine xe_go 3 (s' := (82, [(0, .ref 5), (1, .ref 3), (2, .ref 64), (3, .ref k3), (4, .int 0)], [.int (0 : Int32)], (I6, L6))) rfl ?_
  exact xe_end rfl rfl rfl
set_option maxRecDepth 100000 in
theorem pt_X4_readRest_17 {k3 : Nat} {I I3 : Nat → Nat → Int32} {L L3 : Nat → Nat → Int64} {r1 r2 r4 : Int32} (c1 : fx_kf 1 [.ref k3] (I, L) (some (.int r1)) (I, L)) (h1 : (xe_cmp .eq r1 (Int32.ofInt (-1))) = false) (c2 : fx_kf 1 [.ref k3] (I, L) (some (.int r2)) (I, L)) (c3 : fx_X7_takeNumber [.int r2, .int (0 : Int32), .ref 3] (I, L) (some (.int 1)) (I3, L3)) (h2 : xe_ib (I3 5 4) 40 = true) (c4 : fx_kf 2 [.ref k3] ((xu I3 8 (((I3 5 4)).toInt.toNat) (I3 3 8)), L3) (some (.int r4)) ((xu I3 8 (((I3 5 4)).toInt.toNat) (I3 3 8)), L3)) (h3 : (xe_cmp .ne r4 (Int32.ofInt (-1))) = false) (h4 : (Nat.beq k3 205) = false) : ∃ n, xr_X4_readRest n (0, [(0, .ref 5), (1, .ref 3), (2, .ref 64), (3, .ref k3)], [], (I, L)) (some (.int (1 : Int32))) ((xu (xu I3 8 (((I3 5 4)).toInt.toNat) (I3 3 8)) 5 4 ((I3 5 4) + (1 : Int32))), L3) := by
  refine xe_go 0 (s' := (1, [(0, .ref 5), (1, .ref 3), (2, .ref 64), (3, .ref k3)], [.ref k3], (I, L))) rfl ?_
  refine xe_kf (n := 1) (f := fx_kf 1) rfl (Nat.le_of_ble_eq_true rfl) (List.mem_of_getElem? (i := 0) rfl) (Nat.le_of_ble_eq_true rfl) c1 ?_
  refine xe_bF 1 (A := (35, [(0, .ref 5), (1, .ref 3), (2, .ref 64), (3, .ref k3)], [], (I, L))) (B := (8, [(0, .ref 5), (1, .ref 3), (2, .ref 64), (3, .ref k3)], [], (I, L))) h1 rfl ?_
  refine xe_go 2 (s' := (11, [(0, .ref 5), (1, .ref 3), (2, .ref 64), (3, .ref k3)], [.ref k3, .int (0 : Int32), .ref 3], (I, L))) rfl ?_
  refine xe_kf (n := 1) (f := fx_kf 1) rfl (Nat.le_of_ble_eq_true rfl) (List.mem_of_getElem? (i := 0) rfl) (Nat.le_of_ble_eq_true rfl) c2 ?_
  refine xe_vir (n := 3) (f := fx_X7_takeNumber) rfl (Nat.le_of_ble_eq_true rfl) (List.mem_of_getElem? (i := 0) rfl) (Nat.le_of_ble_eq_true rfl) c3 ?_
  refine xe_ar 7 (A := (35, [(0, .ref 5), (1, .ref 3), (2, .ref 64), (3, .ref k3)], [], ((xu I3 8 (((I3 5 4)).toInt.toNat) (I3 3 8)), L3))) h2 rfl ?_
  refine xe_go 0 (s' := (36, [(0, .ref 5), (1, .ref 3), (2, .ref 64), (3, .ref k3)], [.ref k3], ((xu I3 8 (((I3 5 4)).toInt.toNat) (I3 3 8)), L3))) rfl ?_
  refine xe_kf (n := 1) (f := fx_kf 2) rfl (Nat.le_of_ble_eq_true rfl) (List.mem_of_getElem? (i := 1) rfl) (Nat.le_of_ble_eq_true rfl) c4 ?_
  refine xe_bF 1 (A := (50, [(0, .ref 5), (1, .ref 3), (2, .ref 64), (3, .ref k3)], [], ((xu I3 8 (((I3 5 4)).toInt.toNat) (I3 3 8)), L3))) (B := (43, [(0, .ref 5), (1, .ref 3), (2, .ref 64), (3, .ref k3)], [], ((xu I3 8 (((I3 5 4)).toInt.toNat) (I3 3 8)), L3))) h3 rfl ?_
  refine xe_bF 2 (A := (50, [(0, .ref 5), (1, .ref 3), (2, .ref 64), (3, .ref k3)], [], ((xu I3 8 (((I3 5 4)).toInt.toNat) (I3 3 8)), L3))) (B := (96, [(0, .ref 5), (1, .ref 3), (2, .ref 64), (3, .ref k3)], [], ((xu I3 8 (((I3 5 4)).toInt.toNat) (I3 3 8)), L3))) h4 rfl ?_
  refine xe_go 6 (s' := (107, [(0, .ref 5), (1, .ref 3), (2, .ref 64), (3, .ref k3)], [.int (1 : Int32)], ((xu (xu I3 8 (((I3 5 4)).toInt.toNat) (I3 3 8)) 5 4 ((I3 5 4) + (1 : Int32))), L3))) rfl ?_
  exact xe_end rfl rfl rfl
set_option maxRecDepth 100000 in
theorem pt_X4_readRest_18 {k3 : Nat} {I I3 : Nat → Nat → Int32} {L L3 : Nat → Nat → Int64} {r1 r2 : Int32} (c1 : fx_kf 1 [.ref k3] (I, L) (some (.int r1)) (I, L)) (h1 : (xe_cmp .eq r1 (Int32.ofInt (-1))) = false) (c2 : fx_kf 1 [.ref k3] (I, L) (some (.int r2)) (I, L)) (c3 : fx_X7_takeNumber [.int r2, .int (0 : Int32), .ref 3] (I, L) (some (.int 0)) (I3, L3)) : ∃ n, xr_X4_readRest n (0, [(0, .ref 5), (1, .ref 3), (2, .ref 64), (3, .ref k3)], [], (I, L)) (some (.int (0 : Int32))) (I3, L3) := by
  refine xe_go 0 (s' := (1, [(0, .ref 5), (1, .ref 3), (2, .ref 64), (3, .ref k3)], [.ref k3], (I, L))) rfl ?_
  refine xe_kf (n := 1) (f := fx_kf 1) rfl (Nat.le_of_ble_eq_true rfl) (List.mem_of_getElem? (i := 0) rfl) (Nat.le_of_ble_eq_true rfl) c1 ?_
  refine xe_bF 1 (A := (35, [(0, .ref 5), (1, .ref 3), (2, .ref 64), (3, .ref k3)], [], (I, L))) (B := (8, [(0, .ref 5), (1, .ref 3), (2, .ref 64), (3, .ref k3)], [], (I, L))) h1 rfl ?_
  refine xe_go 2 (s' := (11, [(0, .ref 5), (1, .ref 3), (2, .ref 64), (3, .ref k3)], [.ref k3, .int (0 : Int32), .ref 3], (I, L))) rfl ?_
  refine xe_kf (n := 1) (f := fx_kf 1) rfl (Nat.le_of_ble_eq_true rfl) (List.mem_of_getElem? (i := 0) rfl) (Nat.le_of_ble_eq_true rfl) c2 ?_
  refine xe_vir (n := 3) (f := fx_X7_takeNumber) rfl (Nat.le_of_ble_eq_true rfl) (List.mem_of_getElem? (i := 0) rfl) (Nat.le_of_ble_eq_true rfl) c3 ?_
  refine xe_go 1 (s' := (21, [(0, .ref 5), (1, .ref 3), (2, .ref 64), (3, .ref k3)], [.int (0 : Int32)], (I3, L3))) rfl ?_
  exact xe_end rfl rfl rfl
def xi_X4_readLine : List (Nat × Nat × Instr) := [(0, 1, .aload_n 1), (1, 3, .invokevirtual 52), (4, 1, .astore_n 3), (5, 1, .iconst (-1)), (6, 2, .istore 4), (8, 1, .aload_n 3), (9, 3, .getstatic 27), (12, 3, .if_acmp .ne 22), (15, 1, .aload_n 1), (16, 1, .aload_n 2), (17, 3, .invokevirtual 56), (20, 3, .ifCond .ne 5), (23, 1, .iconst 0), (24, 1, .ireturn), (25, 1, .aload_n 1), (26, 3, .getfield 60), (29, 2, .istore 4), (31, 3, .goto 24), (34, 1, .aload_n 3), (35, 3, .getfield 63), (38, 1, .iconst (-1)), (39, 3, .if_icmp .eq 10), (42, 1, .aload_n 3), (43, 3, .invokevirtual 66), (46, 3, .ifCond .eq 9), (49, 1, .aload_n 1), (50, 1, .iconst 1), (51, 3, .invokevirtual 70), (54, 1, .ireturn), (55, 1, .aload_n 0), (56, 3, .getfield 31), (59, 2, .bipush 40), (61, 3, .if_icmp .lt 9), (64, 1, .aload_n 1), (65, 1, .iconst 4), (66, 3, .invokevirtual 70), (69, 1, .ireturn), (70, 1, .aload_n 1), (71, 3, .invokevirtual 73), (74, 2, .iload 4), (76, 1, .iconst (-1)), (77, 3, .if_icmp .eq 25), (80, 1, .aload_n 1), (81, 3, .invokevirtual 52), (84, 1, .astore_n 3), (85, 1, .aload_n 3), (86, 3, .invokevirtual 66), (89, 3, .ifCond .ne 9), (92, 1, .aload_n 1), (93, 1, .iconst 1), (94, 3, .invokevirtual 70), (97, 1, .ireturn), (98, 1, .aload_n 1), (99, 3, .invokevirtual 73), (102, 1, .aload_n 0), (103, 3, .getfield 13), (106, 1, .aload_n 0), (107, 3, .getfield 31), (110, 1, .aload_n 3), (111, 1, .aastore), (112, 1, .aload_n 0), (113, 3, .getfield 17), (116, 1, .aload_n 0), (117, 3, .getfield 31), (120, 2, .iload 4), (122, 1, .iastore), (123, 1, .aload_n 0), (124, 1, .aload_n 1), (125, 1, .aload_n 2), (126, 1, .aload_n 3), (127, 3, .invokevirtual 76), (130, 1, .ireturn)]
def xg_X4_readLine : zf_ft := [(60, 5, 8, .inl (0, 0)), (31, 2, 4, .inl (0, 0)), (13, 2, 0, .inl (0, 0)), (17, 2, 1, .inl (0, 0))]
def xp_X4_readLine : zf_ft := []
def xv_X4_readLine : List (Nat × Nat × xe_F) := [(52, 1, fx_X7_key), (56, 2, fx_X7_seesMan), (66, 1, fx_X2_needsMan), (70, 2, fx_X7_fail), (73, 1, fx_X7_step), (76, 4, fx_X4_readRest)]
def xt_X4_readLine : List (Nat × Nat × xe_F) := [(63, 1001, (fx_kf 0))]
abbrev xr_X4_readLine := xe_run xGT xSC xRF 5 xg_X4_readLine xp_X4_readLine [(27, 200)] [] (xv_X4_readLine) xt_X4_readLine xi_X4_readLine
def fx_X4_readLine : xe_F := fun us hp v hp' => (us.map fun v => v.category).sum ≤ 5 ∧ xe_rt (some .boolean) v ∧ (∃ ar, us = ar ++ [.ref 5]) ∧ ∃ n, xr_X4_readLine n (0, xe_ag 0 us.reverse, [], hp) v hp'
theorem mk_X4_readLine  {hp hp' : xe_H} {v : Option Value} (hr : xe_rt (some .boolean) v) (h : ∃ n, xr_X4_readLine n (0, [(0, .ref 5), (1, .ref 3), (2, .ref 64)], [], hp) v hp') : fx_X4_readLine [.ref 64, .ref 3, .ref 5] hp v hp' := ⟨Nat.le_of_ble_eq_true rfl, hr, ⟨[.ref 64, .ref 3], rfl⟩, h⟩
theorem hx_X4_readLine : ∀ us hp v hp', fx_X4_readLine us hp v hp' → (us.map fun v => v.category).sum ≤ 5 ∧ xe_rt (some .boolean) v ∧ ∃ n, xr_X4_readLine n (0, xe_ag 0 us.reverse, [], hp) v hp' := fun us hp v hp' h => ⟨h.1, h.2.1, h.2.2.2⟩
theorem fr_X4_readLine : ∀ us hp v hp', fx_X4_readLine us hp v hp' → ∃ ar, us = ar ++ [.ref 5] := fun us hp v hp' h => h.2.2.1
set_option maxRecDepth 100000 in
set_option maxHeartbeats 4000000 in
theorem kx_X4_readLine (l : Launch) (D : va_G) (k : Nat → ClassId) (B0 : Nat) (ad : Nat → Nat) (al sw : Nat) : xe_Con l yX4_readLine (zw yX4_readLine cX4_readLine 5 (some .boolean)) ({ frames := 4, cells := 0, slots := 0, locals := 90 }) D k ad (zEx B0 ad al sw) xGT xSC xRF (fx_X4_readLine) := by
  have hEx := zEx_ok B0 ad al sw
  refine xe_mk (cc := cX4_readLine) (nL := 5) (ret := (some .boolean)) (fg := xg_X4_readLine) (fp := xp_X4_readLine) (sg := [(27, 200)]) (lc := []) (cv := xv_X4_readLine) (cs := xt_X4_readLine) (ins := xi_X4_readLine) (by decide) rfl hEx (by decide +kernel) hx_X4_readLine ?_
  intro p e s m args below meth c Q Sg w0 A θ S hK hE hAB hA hth
  refine ⟨?_, ?_, ?_, ?_, ?_, ?_⟩
  · exact zf_ac ((fun H locs ws a q0 fs v rest pc ls hP he hv hdg kk => va_get (D := D) (ci := 5) (C := RX7) (T := TX7) (N := 11) (own := RX4) S.1 S.2.1 S.2.2.2.2 (zg_in inW_X7) S.2.2.2.1 hK hP q0 he rfl 8 (by decide) (S.2.2.2.2 (.fieldLink RX4 60 "RungMoney$Reader" "taken" "I") (List.mem_cons_of_mem _ zw_162)) (fun _ h9 => h9) hv hdg kk)) (zf_ac ((fun H locs ws a q0 fs v rest pc ls hP he hv hdg kk => va_get (D := D) (ci := 2) (C := RX4) (T := TX4) (N := 7) (own := RX4) S.1 S.2.1 S.2.2.2.2 (zg_in inW_X4) S.2.2.2.1 hK hP q0 he rfl 4 (by decide) (S.2.2.2.2 (.fieldLink RX4 31 "RungMoney$Ledger" "size" "I") (List.mem_cons_of_mem _ zw_345)) (fun _ h9 => h9) hv hdg kk)) (zf_ac ((fun H locs ws a q0 fs v rest pc ls hP he hv hdg kk => va_get (D := D) (ci := 2) (C := RX4) (T := TX4) (N := 7) (own := RX4) S.1 S.2.1 S.2.2.2.2 (zg_in inW_X4) S.2.2.2.1 hK hP q0 he rfl 0 (by decide) (S.2.2.2.2 (.fieldLink RX4 13 "RungMoney$Ledger" "acts" "[LRungMoney$Key;") (List.mem_cons_of_mem _ zw_341)) (fun _ h9 => h9) hv hdg kk)) (zf_ac ((fun H locs ws a q0 fs v rest pc ls hP he hv hdg kk => va_get (D := D) (ci := 2) (C := RX4) (T := TX4) (N := 7) (own := RX4) S.1 S.2.1 S.2.2.2.2 (zg_in inW_X4) S.2.2.2.1 hK hP q0 he rfl 1 (by decide) (S.2.2.2.2 (.fieldLink RX4 17 "RungMoney$Ledger" "men" "[I") (List.mem_cons_of_mem _ zw_342)) (fun _ h9 => h9) hv hdg kk)) zf_an)))
  · exact zf_an
  · exact xe_a2 ((fun H locs rest pc ls hS hdg kk => va_gets (C := RX2) (n := "OTHER") (d := zkD) (v := .ref (θ 200)) S.1 S.2.1 (by rw [(hth.2 0 (by decide)).1]; exact (hE.2.2.2.1.1 0 (by decide)).1.narrow hAB) hS S.2.2.2.1 (S.2.2.2.2 (.fieldLink RX4 27 "RungMoney$Key" "OTHER" "LRungMoney$Key;") (List.mem_cons_of_mem _ zw_340)) (fun _ h9 => h9) hdg (kk (by show Sg (θ 200) = some 128; rw [(hth.2 0 (by decide)).1]; exact (hth.2 0 (by decide)).2)))) xe_n2
  · exact xe_n3
  · exact xe_a4 (xe_crV S hEx hE hAB hA hK hth (kx_X7_key l D k B0 ad al sw) (cwV 0 S.2.2.2.2 (zg_V zw_1047 zw_510 zw_511 zw_97 zw_512) rfl rfl rfl (by decide +kernel) ⟨(Nat.le_of_ble_eq_true rfl), (Nat.le_of_ble_eq_true rfl)⟩) ⟨(Nat.le_of_ble_eq_true rfl), (Nat.le_of_ble_eq_true rfl)⟩ 5 rfl rfl 3 (by decide +kernel) fr_X7_key) (xe_a4 (xe_crV S hEx hE hAB hA hK hth (kx_X7_seesMan l D k B0 ad al sw) (cwV 1 S.2.2.2.2 (zg_V zw_1048 zw_554 zw_555 zw_97 zw_556) rfl rfl rfl (by decide +kernel) ⟨(Nat.le_of_ble_eq_true rfl), (Nat.le_of_ble_eq_true rfl)⟩) ⟨(Nat.le_of_ble_eq_true rfl), (Nat.le_of_ble_eq_true rfl)⟩ 5 rfl rfl 3 (by decide +kernel) fr_X7_seesMan) (xe_a4 (xe_crVK S hE hAB hA hK hth (kx_X2_needsMan l D k B0 ad al sw) (cwV 0 S.2.2.2.2 (zg_V zw_1049 zw_1050 zw_1051 zw_104 zw_1052) rfl rfl rfl (by decide +kernel) ⟨(Nat.le_of_ble_eq_true rfl), (Nat.le_of_ble_eq_true rfl)⟩) ⟨(Nat.le_of_ble_eq_true rfl), (Nat.le_of_ble_eq_true rfl)⟩ fr_X2_needsMan) (xe_a4 (xe_crV S hEx hE hAB hA hK hth (kx_X7_fail l D k B0 ad al sw) (cwV 1 S.2.2.2.2 (zg_V zw_1057 zw_526 zw_527 zw_97 zw_528) rfl rfl rfl (by decide +kernel) ⟨(Nat.le_of_ble_eq_true rfl), (Nat.le_of_ble_eq_true rfl)⟩) ⟨(Nat.le_of_ble_eq_true rfl), (Nat.le_of_ble_eq_true rfl)⟩ 5 rfl rfl 3 (by decide +kernel) fr_X7_fail) (xe_a4 (xe_crV S hEx hE hAB hA hK hth (kx_X7_step l D k B0 ad al sw) (cwV 0 S.2.2.2.2 (zg_V zw_1058 zw_494 zw_495 zw_97 zw_496) rfl rfl rfl (by decide +kernel) ⟨(Nat.le_of_ble_eq_true rfl), (Nat.le_of_ble_eq_true rfl)⟩) ⟨(Nat.le_of_ble_eq_true rfl), (Nat.le_of_ble_eq_true rfl)⟩ 5 rfl rfl 3 (by decide +kernel) fr_X7_step) (xe_a4 (xe_crV S hEx hE hAB hA hK hth (kx_X4_readRest l D k B0 ad al sw) (cwV 3 S.2.2.2.2 (zg_V zw_1059 zw_1061 zw_14 zw_105 zw_1062) rfl rfl rfl (by decide +kernel) ⟨(Nat.le_of_ble_eq_true rfl), (Nat.le_of_ble_eq_true rfl)⟩) ⟨(Nat.le_of_ble_eq_true rfl), (Nat.le_of_ble_eq_true rfl)⟩ 2 rfl rfl 5 (by decide +kernel) fr_X4_readRest) xe_n4)))))
  · exact xe_a4 (xe_crG S hE hAB hth (j := 0) (by simp [zkF]) rfl rfl rfl (S.2.2.2.2 (.fieldLink RX4 63 "RungMoney$Key" "sort" "I") (List.mem_cons_of_mem _ zw_1974))) xe_n4
set_option maxRecDepth 100000 in
theorem pt_X4_readLine_0 {I I1 I2 I3 I4 : Nat → Nat → Int32} {L L1 L2 L3 L4 : Nat → Nat → Int64} {k1 : Nat} (c1 : fx_X7_key [.ref 3] (I, L) (some (.ref k1)) (I1, L1)) (h1 : (Nat.beq k1 200) = true) (c2 : fx_X7_seesMan [.ref 64, .ref 3] (I1, L1) (some (.int 1)) (I2, L2)) (h2 : (xe_cmp .lt (I2 5 4) (40 : Int32)) = true) (c3 : fx_X7_step [.ref 3] (I2, L2) none (I3, L3)) (h3 : (xe_cmp .eq (I2 3 8) (Int32.ofInt (-1))) = true) (h4 : (xe_ib (I3 5 4) 40 && Nat.beq (xe_k k1) 128) = true) (h5 : xe_ib (I3 5 4) 40 = true) (c4 : fx_X4_readRest [.ref k1, .ref 64, .ref 3, .ref 5] ((xu I3 7 (((I3 5 4)).toInt.toNat) (I2 3 8)), L3) (some (.int 1)) (I4, L4)) : ∃ n, xr_X4_readLine n (0, [(0, .ref 5), (1, .ref 3), (2, .ref 64)], [], (I, L)) (some (.int 1)) (I4, L4) := by
  refine xe_go 0 (s' := (1, [(0, .ref 5), (1, .ref 3), (2, .ref 64)], [.ref 3], (I, L))) rfl ?_
  refine xe_vir (n := 1) (f := fx_X7_key) rfl (Nat.le_of_ble_eq_true rfl) (List.mem_of_getElem? (i := 0) rfl) (Nat.le_of_ble_eq_true rfl) c1 ?_
  refine xe_bT 5 (A := (15, [(0, .ref 5), (1, .ref 3), (2, .ref 64), (3, .ref k1), (4, .int (Int32.ofInt (-1)))], [], (I1, L1))) (B := (34, [(0, .ref 5), (1, .ref 3), (2, .ref 64), (3, .ref k1), (4, .int (Int32.ofInt (-1)))], [], (I1, L1))) h1 rfl ?_
  refine xe_go 1 (s' := (17, [(0, .ref 5), (1, .ref 3), (2, .ref 64), (3, .ref k1), (4, .int (Int32.ofInt (-1)))], [.ref 64, .ref 3], (I1, L1))) rfl ?_
  refine xe_vir (n := 2) (f := fx_X7_seesMan) rfl (Nat.le_of_ble_eq_true rfl) (List.mem_of_getElem? (i := 1) rfl) (Nat.le_of_ble_eq_true rfl) c2 ?_
  refine xe_bT 8 (A := (70, [(0, .ref 5), (1, .ref 3), (2, .ref 64), (3, .ref k1), (4, .int (I2 3 8))], [], (I2, L2))) (B := (64, [(0, .ref 5), (1, .ref 3), (2, .ref 64), (3, .ref k1), (4, .int (I2 3 8))], [], (I2, L2))) h2 rfl ?_
  refine xe_go 0 (s' := (71, [(0, .ref 5), (1, .ref 3), (2, .ref 64), (3, .ref k1), (4, .int (I2 3 8))], [.ref 3], (I2, L2))) rfl ?_
  refine xe_vir (n := 1) (f := fx_X7_step) rfl (Nat.le_of_ble_eq_true rfl) (List.mem_of_getElem? (i := 4) rfl) (Nat.le_of_ble_eq_true rfl) c3 ?_
  refine xe_bT 2 (A := (102, [(0, .ref 5), (1, .ref 3), (2, .ref 64), (3, .ref k1), (4, .int (I2 3 8))], [], (I3, L3))) (B := (80, [(0, .ref 5), (1, .ref 3), (2, .ref 64), (3, .ref k1), (4, .int (I2 3 8))], [], (I3, L3))) h3 rfl ?_
  refine xe_ar 5 (A := (112, [(0, .ref 5), (1, .ref 3), (2, .ref 64), (3, .ref k1), (4, .int (I2 3 8))], [], (I3, L3))) h4 rfl ?_
  refine xe_ar 5 (A := (123, [(0, .ref 5), (1, .ref 3), (2, .ref 64), (3, .ref k1), (4, .int (I2 3 8))], [], ((xu I3 7 (((I3 5 4)).toInt.toNat) (I2 3 8)), L3))) h5 rfl ?_
  refine xe_go 3 (s' := (127, [(0, .ref 5), (1, .ref 3), (2, .ref 64), (3, .ref k1), (4, .int (I2 3 8))], [.ref k1, .ref 64, .ref 3, .ref 5], ((xu I3 7 (((I3 5 4)).toInt.toNat) (I2 3 8)), L3))) rfl ?_
  refine xe_vir (n := 4) (f := fx_X4_readRest) rfl (Nat.le_of_ble_eq_true rfl) (List.mem_of_getElem? (i := 5) rfl) (Nat.le_of_ble_eq_true rfl) c4 ?_
  exact xe_end rfl rfl rfl
set_option maxRecDepth 100000 in
theorem pt_X4_readLine_1 {I I1 I2 I3 I4 : Nat → Nat → Int32} {L L1 L2 L3 L4 : Nat → Nat → Int64} {k1 : Nat} (c1 : fx_X7_key [.ref 3] (I, L) (some (.ref k1)) (I1, L1)) (h1 : (Nat.beq k1 200) = true) (c2 : fx_X7_seesMan [.ref 64, .ref 3] (I1, L1) (some (.int 1)) (I2, L2)) (h2 : (xe_cmp .lt (I2 5 4) (40 : Int32)) = true) (c3 : fx_X7_step [.ref 3] (I2, L2) none (I3, L3)) (h3 : (xe_cmp .eq (I2 3 8) (Int32.ofInt (-1))) = true) (h4 : (xe_ib (I3 5 4) 40 && Nat.beq (xe_k k1) 128) = true) (h5 : xe_ib (I3 5 4) 40 = true) (c4 : fx_X4_readRest [.ref k1, .ref 64, .ref 3, .ref 5] ((xu I3 7 (((I3 5 4)).toInt.toNat) (I2 3 8)), L3) (some (.int 0)) (I4, L4)) : ∃ n, xr_X4_readLine n (0, [(0, .ref 5), (1, .ref 3), (2, .ref 64)], [], (I, L)) (some (.int 0)) (I4, L4) := by
  refine xe_go 0 (s' := (1, [(0, .ref 5), (1, .ref 3), (2, .ref 64)], [.ref 3], (I, L))) rfl ?_
  refine xe_vir (n := 1) (f := fx_X7_key) rfl (Nat.le_of_ble_eq_true rfl) (List.mem_of_getElem? (i := 0) rfl) (Nat.le_of_ble_eq_true rfl) c1 ?_
  refine xe_bT 5 (A := (15, [(0, .ref 5), (1, .ref 3), (2, .ref 64), (3, .ref k1), (4, .int (Int32.ofInt (-1)))], [], (I1, L1))) (B := (34, [(0, .ref 5), (1, .ref 3), (2, .ref 64), (3, .ref k1), (4, .int (Int32.ofInt (-1)))], [], (I1, L1))) h1 rfl ?_
  refine xe_go 1 (s' := (17, [(0, .ref 5), (1, .ref 3), (2, .ref 64), (3, .ref k1), (4, .int (Int32.ofInt (-1)))], [.ref 64, .ref 3], (I1, L1))) rfl ?_
  refine xe_vir (n := 2) (f := fx_X7_seesMan) rfl (Nat.le_of_ble_eq_true rfl) (List.mem_of_getElem? (i := 1) rfl) (Nat.le_of_ble_eq_true rfl) c2 ?_
  refine xe_bT 8 (A := (70, [(0, .ref 5), (1, .ref 3), (2, .ref 64), (3, .ref k1), (4, .int (I2 3 8))], [], (I2, L2))) (B := (64, [(0, .ref 5), (1, .ref 3), (2, .ref 64), (3, .ref k1), (4, .int (I2 3 8))], [], (I2, L2))) h2 rfl ?_
  refine xe_go 0 (s' := (71, [(0, .ref 5), (1, .ref 3), (2, .ref 64), (3, .ref k1), (4, .int (I2 3 8))], [.ref 3], (I2, L2))) rfl ?_
  refine xe_vir (n := 1) (f := fx_X7_step) rfl (Nat.le_of_ble_eq_true rfl) (List.mem_of_getElem? (i := 4) rfl) (Nat.le_of_ble_eq_true rfl) c3 ?_
  refine xe_bT 2 (A := (102, [(0, .ref 5), (1, .ref 3), (2, .ref 64), (3, .ref k1), (4, .int (I2 3 8))], [], (I3, L3))) (B := (80, [(0, .ref 5), (1, .ref 3), (2, .ref 64), (3, .ref k1), (4, .int (I2 3 8))], [], (I3, L3))) h3 rfl ?_
  refine xe_ar 5 (A := (112, [(0, .ref 5), (1, .ref 3), (2, .ref 64), (3, .ref k1), (4, .int (I2 3 8))], [], (I3, L3))) h4 rfl ?_
  refine xe_ar 5 (A := (123, [(0, .ref 5), (1, .ref 3), (2, .ref 64), (3, .ref k1), (4, .int (I2 3 8))], [], ((xu I3 7 (((I3 5 4)).toInt.toNat) (I2 3 8)), L3))) h5 rfl ?_
  refine xe_go 3 (s' := (127, [(0, .ref 5), (1, .ref 3), (2, .ref 64), (3, .ref k1), (4, .int (I2 3 8))], [.ref k1, .ref 64, .ref 3, .ref 5], ((xu I3 7 (((I3 5 4)).toInt.toNat) (I2 3 8)), L3))) rfl ?_
  refine xe_vir (n := 4) (f := fx_X4_readRest) rfl (Nat.le_of_ble_eq_true rfl) (List.mem_of_getElem? (i := 5) rfl) (Nat.le_of_ble_eq_true rfl) c4 ?_
  exact xe_end rfl rfl rfl
set_option maxRecDepth 100000 in
theorem pt_X4_readLine_2 {I I1 I2 I3 I4 I5 I6 I7 : Nat → Nat → Int32} {L L1 L2 L3 L4 L5 L6 L7 : Nat → Nat → Int64} {k1 k4 : Nat} (c1 : fx_X7_key [.ref 3] (I, L) (some (.ref k1)) (I1, L1)) (h1 : (Nat.beq k1 200) = true) (c2 : fx_X7_seesMan [.ref 64, .ref 3] (I1, L1) (some (.int 1)) (I2, L2)) (h2 : (xe_cmp .lt (I2 5 4) (40 : Int32)) = true) (c3 : fx_X7_step [.ref 3] (I2, L2) none (I3, L3)) (h3 : (xe_cmp .eq (I2 3 8) (Int32.ofInt (-1))) = false) (c4 : fx_X7_key [.ref 3] (I3, L3) (some (.ref k4)) (I4, L4)) (c5 : fx_X2_needsMan [.ref k4] (I4, L4) (some (.int 1)) (I5, L5)) (c6 : fx_X7_step [.ref 3] (I5, L5) none (I6, L6)) (h4 : (xe_ib (I6 5 4) 40 && Nat.beq (xe_k k4) 128) = true) (h5 : xe_ib (I6 5 4) 40 = true) (c7 : fx_X4_readRest [.ref k4, .ref 64, .ref 3, .ref 5] ((xu I6 7 (((I6 5 4)).toInt.toNat) (I2 3 8)), L6) (some (.int 1)) (I7, L7)) : ∃ n, xr_X4_readLine n (0, [(0, .ref 5), (1, .ref 3), (2, .ref 64)], [], (I, L)) (some (.int 1)) (I7, L7) := by
  refine xe_go 0 (s' := (1, [(0, .ref 5), (1, .ref 3), (2, .ref 64)], [.ref 3], (I, L))) rfl ?_
  refine xe_vir (n := 1) (f := fx_X7_key) rfl (Nat.le_of_ble_eq_true rfl) (List.mem_of_getElem? (i := 0) rfl) (Nat.le_of_ble_eq_true rfl) c1 ?_
  refine xe_bT 5 (A := (15, [(0, .ref 5), (1, .ref 3), (2, .ref 64), (3, .ref k1), (4, .int (Int32.ofInt (-1)))], [], (I1, L1))) (B := (34, [(0, .ref 5), (1, .ref 3), (2, .ref 64), (3, .ref k1), (4, .int (Int32.ofInt (-1)))], [], (I1, L1))) h1 rfl ?_
  refine xe_go 1 (s' := (17, [(0, .ref 5), (1, .ref 3), (2, .ref 64), (3, .ref k1), (4, .int (Int32.ofInt (-1)))], [.ref 64, .ref 3], (I1, L1))) rfl ?_
  refine xe_vir (n := 2) (f := fx_X7_seesMan) rfl (Nat.le_of_ble_eq_true rfl) (List.mem_of_getElem? (i := 1) rfl) (Nat.le_of_ble_eq_true rfl) c2 ?_
  refine xe_bT 8 (A := (70, [(0, .ref 5), (1, .ref 3), (2, .ref 64), (3, .ref k1), (4, .int (I2 3 8))], [], (I2, L2))) (B := (64, [(0, .ref 5), (1, .ref 3), (2, .ref 64), (3, .ref k1), (4, .int (I2 3 8))], [], (I2, L2))) h2 rfl ?_
  refine xe_go 0 (s' := (71, [(0, .ref 5), (1, .ref 3), (2, .ref 64), (3, .ref k1), (4, .int (I2 3 8))], [.ref 3], (I2, L2))) rfl ?_
  refine xe_vir (n := 1) (f := fx_X7_step) rfl (Nat.le_of_ble_eq_true rfl) (List.mem_of_getElem? (i := 4) rfl) (Nat.le_of_ble_eq_true rfl) c3 ?_
  refine xe_bF 2 (A := (102, [(0, .ref 5), (1, .ref 3), (2, .ref 64), (3, .ref k1), (4, .int (I2 3 8))], [], (I3, L3))) (B := (80, [(0, .ref 5), (1, .ref 3), (2, .ref 64), (3, .ref k1), (4, .int (I2 3 8))], [], (I3, L3))) h3 rfl ?_
  refine xe_go 0 (s' := (81, [(0, .ref 5), (1, .ref 3), (2, .ref 64), (3, .ref k1), (4, .int (I2 3 8))], [.ref 3], (I3, L3))) rfl ?_
  refine xe_vir (n := 1) (f := fx_X7_key) rfl (Nat.le_of_ble_eq_true rfl) (List.mem_of_getElem? (i := 0) rfl) (Nat.le_of_ble_eq_true rfl) c4 ?_
  refine xe_go 1 (s' := (86, [(0, .ref 5), (1, .ref 3), (2, .ref 64), (3, .ref k4), (4, .int (I2 3 8))], [.ref k4], (I4, L4))) rfl ?_
  refine xe_vir (n := 1) (f := fx_X2_needsMan) rfl (Nat.le_of_ble_eq_true rfl) (List.mem_of_getElem? (i := 2) rfl) (Nat.le_of_ble_eq_true rfl) c5 ?_
  refine xe_go 1 (s' := (99, [(0, .ref 5), (1, .ref 3), (2, .ref 64), (3, .ref k4), (4, .int (I2 3 8))], [.ref 3], (I5, L5))) rfl ?_
  refine xe_vir (n := 1) (f := fx_X7_step) rfl (Nat.le_of_ble_eq_true rfl) (List.mem_of_getElem? (i := 4) rfl) (Nat.le_of_ble_eq_true rfl) c6 ?_
  refine xe_ar 5 (A := (112, [(0, .ref 5), (1, .ref 3), (2, .ref 64), (3, .ref k4), (4, .int (I2 3 8))], [], (I6, L6))) h4 rfl ?_
  refine xe_ar 5 (A := (123, [(0, .ref 5), (1, .ref 3), (2, .ref 64), (3, .ref k4), (4, .int (I2 3 8))], [], ((xu I6 7 (((I6 5 4)).toInt.toNat) (I2 3 8)), L6))) h5 rfl ?_
  refine xe_go 3 (s' := (127, [(0, .ref 5), (1, .ref 3), (2, .ref 64), (3, .ref k4), (4, .int (I2 3 8))], [.ref k4, .ref 64, .ref 3, .ref 5], ((xu I6 7 (((I6 5 4)).toInt.toNat) (I2 3 8)), L6))) rfl ?_
  refine xe_vir (n := 4) (f := fx_X4_readRest) rfl (Nat.le_of_ble_eq_true rfl) (List.mem_of_getElem? (i := 5) rfl) (Nat.le_of_ble_eq_true rfl) c7 ?_
  exact xe_end rfl rfl rfl
set_option maxRecDepth 100000 in
theorem pt_X4_readLine_3 {I I1 I2 I3 I4 I5 I6 I7 : Nat → Nat → Int32} {L L1 L2 L3 L4 L5 L6 L7 : Nat → Nat → Int64} {k1 k4 : Nat} (c1 : fx_X7_key [.ref 3] (I, L) (some (.ref k1)) (I1, L1)) (h1 : (Nat.beq k1 200) = true) (c2 : fx_X7_seesMan [.ref 64, .ref 3] (I1, L1) (some (.int 1)) (I2, L2)) (h2 : (xe_cmp .lt (I2 5 4) (40 : Int32)) = true) (c3 : fx_X7_step [.ref 3] (I2, L2) none (I3, L3)) (h3 : (xe_cmp .eq (I2 3 8) (Int32.ofInt (-1))) = false) (c4 : fx_X7_key [.ref 3] (I3, L3) (some (.ref k4)) (I4, L4)) (c5 : fx_X2_needsMan [.ref k4] (I4, L4) (some (.int 1)) (I5, L5)) (c6 : fx_X7_step [.ref 3] (I5, L5) none (I6, L6)) (h4 : (xe_ib (I6 5 4) 40 && Nat.beq (xe_k k4) 128) = true) (h5 : xe_ib (I6 5 4) 40 = true) (c7 : fx_X4_readRest [.ref k4, .ref 64, .ref 3, .ref 5] ((xu I6 7 (((I6 5 4)).toInt.toNat) (I2 3 8)), L6) (some (.int 0)) (I7, L7)) : ∃ n, xr_X4_readLine n (0, [(0, .ref 5), (1, .ref 3), (2, .ref 64)], [], (I, L)) (some (.int 0)) (I7, L7) := by
  refine xe_go 0 (s' := (1, [(0, .ref 5), (1, .ref 3), (2, .ref 64)], [.ref 3], (I, L))) rfl ?_
  refine xe_vir (n := 1) (f := fx_X7_key) rfl (Nat.le_of_ble_eq_true rfl) (List.mem_of_getElem? (i := 0) rfl) (Nat.le_of_ble_eq_true rfl) c1 ?_
  refine xe_bT 5 (A := (15, [(0, .ref 5), (1, .ref 3), (2, .ref 64), (3, .ref k1), (4, .int (Int32.ofInt (-1)))], [], (I1, L1))) (B := (34, [(0, .ref 5), (1, .ref 3), (2, .ref 64), (3, .ref k1), (4, .int (Int32.ofInt (-1)))], [], (I1, L1))) h1 rfl ?_
  refine xe_go 1 (s' := (17, [(0, .ref 5), (1, .ref 3), (2, .ref 64), (3, .ref k1), (4, .int (Int32.ofInt (-1)))], [.ref 64, .ref 3], (I1, L1))) rfl ?_
  refine xe_vir (n := 2) (f := fx_X7_seesMan) rfl (Nat.le_of_ble_eq_true rfl) (List.mem_of_getElem? (i := 1) rfl) (Nat.le_of_ble_eq_true rfl) c2 ?_
  refine xe_bT 8 (A := (70, [(0, .ref 5), (1, .ref 3), (2, .ref 64), (3, .ref k1), (4, .int (I2 3 8))], [], (I2, L2))) (B := (64, [(0, .ref 5), (1, .ref 3), (2, .ref 64), (3, .ref k1), (4, .int (I2 3 8))], [], (I2, L2))) h2 rfl ?_
  refine xe_go 0 (s' := (71, [(0, .ref 5), (1, .ref 3), (2, .ref 64), (3, .ref k1), (4, .int (I2 3 8))], [.ref 3], (I2, L2))) rfl ?_
  refine xe_vir (n := 1) (f := fx_X7_step) rfl (Nat.le_of_ble_eq_true rfl) (List.mem_of_getElem? (i := 4) rfl) (Nat.le_of_ble_eq_true rfl) c3 ?_
  refine xe_bF 2 (A := (102, [(0, .ref 5), (1, .ref 3), (2, .ref 64), (3, .ref k1), (4, .int (I2 3 8))], [], (I3, L3))) (B := (80, [(0, .ref 5), (1, .ref 3), (2, .ref 64), (3, .ref k1), (4, .int (I2 3 8))], [], (I3, L3))) h3 rfl ?_
  refine xe_go 0 (s' := (81, [(0, .ref 5), (1, .ref 3), (2, .ref 64), (3, .ref k1), (4, .int (I2 3 8))], [.ref 3], (I3, L3))) rfl ?_
  refine xe_vir (n := 1) (f := fx_X7_key) rfl (Nat.le_of_ble_eq_true rfl) (List.mem_of_getElem? (i := 0) rfl) (Nat.le_of_ble_eq_true rfl) c4 ?_
  refine xe_go 1 (s' := (86, [(0, .ref 5), (1, .ref 3), (2, .ref 64), (3, .ref k4), (4, .int (I2 3 8))], [.ref k4], (I4, L4))) rfl ?_
  refine xe_vir (n := 1) (f := fx_X2_needsMan) rfl (Nat.le_of_ble_eq_true rfl) (List.mem_of_getElem? (i := 2) rfl) (Nat.le_of_ble_eq_true rfl) c5 ?_
  refine xe_go 1 (s' := (99, [(0, .ref 5), (1, .ref 3), (2, .ref 64), (3, .ref k4), (4, .int (I2 3 8))], [.ref 3], (I5, L5))) rfl ?_
  refine xe_vir (n := 1) (f := fx_X7_step) rfl (Nat.le_of_ble_eq_true rfl) (List.mem_of_getElem? (i := 4) rfl) (Nat.le_of_ble_eq_true rfl) c6 ?_
  refine xe_ar 5 (A := (112, [(0, .ref 5), (1, .ref 3), (2, .ref 64), (3, .ref k4), (4, .int (I2 3 8))], [], (I6, L6))) h4 rfl ?_
  refine xe_ar 5 (A := (123, [(0, .ref 5), (1, .ref 3), (2, .ref 64), (3, .ref k4), (4, .int (I2 3 8))], [], ((xu I6 7 (((I6 5 4)).toInt.toNat) (I2 3 8)), L6))) h5 rfl ?_
  refine xe_go 3 (s' := (127, [(0, .ref 5), (1, .ref 3), (2, .ref 64), (3, .ref k4), (4, .int (I2 3 8))], [.ref k4, .ref 64, .ref 3, .ref 5], ((xu I6 7 (((I6 5 4)).toInt.toNat) (I2 3 8)), L6))) rfl ?_
  refine xe_vir (n := 4) (f := fx_X4_readRest) rfl (Nat.le_of_ble_eq_true rfl) (List.mem_of_getElem? (i := 5) rfl) (Nat.le_of_ble_eq_true rfl) c7 ?_
  exact xe_end rfl rfl rfl
set_option maxRecDepth 100000 in
theorem pt_X4_readLine_4 {I I1 I2 I3 I4 I5 I6 : Nat → Nat → Int32} {L L1 L2 L3 L4 L5 L6 : Nat → Nat → Int64} {k1 k4 : Nat} (c1 : fx_X7_key [.ref 3] (I, L) (some (.ref k1)) (I1, L1)) (h1 : (Nat.beq k1 200) = true) (c2 : fx_X7_seesMan [.ref 64, .ref 3] (I1, L1) (some (.int 1)) (I2, L2)) (h2 : (xe_cmp .lt (I2 5 4) (40 : Int32)) = true) (c3 : fx_X7_step [.ref 3] (I2, L2) none (I3, L3)) (h3 : (xe_cmp .eq (I2 3 8) (Int32.ofInt (-1))) = false) (c4 : fx_X7_key [.ref 3] (I3, L3) (some (.ref k4)) (I4, L4)) (c5 : fx_X2_needsMan [.ref k4] (I4, L4) (some (.int 0)) (I5, L5)) (c6 : fx_X7_fail [.int (1 : Int32), .ref 3] (I5, L5) (some (.int 0)) (I6, L6)) : ∃ n, xr_X4_readLine n (0, [(0, .ref 5), (1, .ref 3), (2, .ref 64)], [], (I, L)) (some (.int 0)) (I6, L6) := by
  refine xe_go 0 (s' := (1, [(0, .ref 5), (1, .ref 3), (2, .ref 64)], [.ref 3], (I, L))) rfl ?_
  refine xe_vir (n := 1) (f := fx_X7_key) rfl (Nat.le_of_ble_eq_true rfl) (List.mem_of_getElem? (i := 0) rfl) (Nat.le_of_ble_eq_true rfl) c1 ?_
  refine xe_bT 5 (A := (15, [(0, .ref 5), (1, .ref 3), (2, .ref 64), (3, .ref k1), (4, .int (Int32.ofInt (-1)))], [], (I1, L1))) (B := (34, [(0, .ref 5), (1, .ref 3), (2, .ref 64), (3, .ref k1), (4, .int (Int32.ofInt (-1)))], [], (I1, L1))) h1 rfl ?_
  refine xe_go 1 (s' := (17, [(0, .ref 5), (1, .ref 3), (2, .ref 64), (3, .ref k1), (4, .int (Int32.ofInt (-1)))], [.ref 64, .ref 3], (I1, L1))) rfl ?_
  refine xe_vir (n := 2) (f := fx_X7_seesMan) rfl (Nat.le_of_ble_eq_true rfl) (List.mem_of_getElem? (i := 1) rfl) (Nat.le_of_ble_eq_true rfl) c2 ?_
  refine xe_bT 8 (A := (70, [(0, .ref 5), (1, .ref 3), (2, .ref 64), (3, .ref k1), (4, .int (I2 3 8))], [], (I2, L2))) (B := (64, [(0, .ref 5), (1, .ref 3), (2, .ref 64), (3, .ref k1), (4, .int (I2 3 8))], [], (I2, L2))) h2 rfl ?_
  refine xe_go 0 (s' := (71, [(0, .ref 5), (1, .ref 3), (2, .ref 64), (3, .ref k1), (4, .int (I2 3 8))], [.ref 3], (I2, L2))) rfl ?_
  refine xe_vir (n := 1) (f := fx_X7_step) rfl (Nat.le_of_ble_eq_true rfl) (List.mem_of_getElem? (i := 4) rfl) (Nat.le_of_ble_eq_true rfl) c3 ?_
  refine xe_bF 2 (A := (102, [(0, .ref 5), (1, .ref 3), (2, .ref 64), (3, .ref k1), (4, .int (I2 3 8))], [], (I3, L3))) (B := (80, [(0, .ref 5), (1, .ref 3), (2, .ref 64), (3, .ref k1), (4, .int (I2 3 8))], [], (I3, L3))) h3 rfl ?_
  refine xe_go 0 (s' := (81, [(0, .ref 5), (1, .ref 3), (2, .ref 64), (3, .ref k1), (4, .int (I2 3 8))], [.ref 3], (I3, L3))) rfl ?_
  refine xe_vir (n := 1) (f := fx_X7_key) rfl (Nat.le_of_ble_eq_true rfl) (List.mem_of_getElem? (i := 0) rfl) (Nat.le_of_ble_eq_true rfl) c4 ?_
  refine xe_go 1 (s' := (86, [(0, .ref 5), (1, .ref 3), (2, .ref 64), (3, .ref k4), (4, .int (I2 3 8))], [.ref k4], (I4, L4))) rfl ?_
  refine xe_vir (n := 1) (f := fx_X2_needsMan) rfl (Nat.le_of_ble_eq_true rfl) (List.mem_of_getElem? (i := 2) rfl) (Nat.le_of_ble_eq_true rfl) c5 ?_
  refine xe_go 2 (s' := (94, [(0, .ref 5), (1, .ref 3), (2, .ref 64), (3, .ref k4), (4, .int (I2 3 8))], [.int (1 : Int32), .ref 3], (I5, L5))) rfl ?_
  refine xe_vir (n := 2) (f := fx_X7_fail) rfl (Nat.le_of_ble_eq_true rfl) (List.mem_of_getElem? (i := 3) rfl) (Nat.le_of_ble_eq_true rfl) c6 ?_
  exact xe_end rfl rfl rfl
set_option maxRecDepth 100000 in
theorem pt_X4_readLine_5 {I I1 I2 I3 : Nat → Nat → Int32} {L L1 L2 L3 : Nat → Nat → Int64} {k1 : Nat} (c1 : fx_X7_key [.ref 3] (I, L) (some (.ref k1)) (I1, L1)) (h1 : (Nat.beq k1 200) = true) (c2 : fx_X7_seesMan [.ref 64, .ref 3] (I1, L1) (some (.int 1)) (I2, L2)) (h2 : (xe_cmp .lt (I2 5 4) (40 : Int32)) = false) (c3 : fx_X7_fail [.int (4 : Int32), .ref 3] (I2, L2) (some (.int 0)) (I3, L3)) : ∃ n, xr_X4_readLine n (0, [(0, .ref 5), (1, .ref 3), (2, .ref 64)], [], (I, L)) (some (.int 0)) (I3, L3) := by
  refine xe_go 0 (s' := (1, [(0, .ref 5), (1, .ref 3), (2, .ref 64)], [.ref 3], (I, L))) rfl ?_
  refine xe_vir (n := 1) (f := fx_X7_key) rfl (Nat.le_of_ble_eq_true rfl) (List.mem_of_getElem? (i := 0) rfl) (Nat.le_of_ble_eq_true rfl) c1 ?_
  refine xe_bT 5 (A := (15, [(0, .ref 5), (1, .ref 3), (2, .ref 64), (3, .ref k1), (4, .int (Int32.ofInt (-1)))], [], (I1, L1))) (B := (34, [(0, .ref 5), (1, .ref 3), (2, .ref 64), (3, .ref k1), (4, .int (Int32.ofInt (-1)))], [], (I1, L1))) h1 rfl ?_
  refine xe_go 1 (s' := (17, [(0, .ref 5), (1, .ref 3), (2, .ref 64), (3, .ref k1), (4, .int (Int32.ofInt (-1)))], [.ref 64, .ref 3], (I1, L1))) rfl ?_
  refine xe_vir (n := 2) (f := fx_X7_seesMan) rfl (Nat.le_of_ble_eq_true rfl) (List.mem_of_getElem? (i := 1) rfl) (Nat.le_of_ble_eq_true rfl) c2 ?_
  refine xe_bF 8 (A := (70, [(0, .ref 5), (1, .ref 3), (2, .ref 64), (3, .ref k1), (4, .int (I2 3 8))], [], (I2, L2))) (B := (64, [(0, .ref 5), (1, .ref 3), (2, .ref 64), (3, .ref k1), (4, .int (I2 3 8))], [], (I2, L2))) h2 rfl ?_
  refine xe_go 1 (s' := (66, [(0, .ref 5), (1, .ref 3), (2, .ref 64), (3, .ref k1), (4, .int (I2 3 8))], [.int (4 : Int32), .ref 3], (I2, L2))) rfl ?_
  refine xe_vir (n := 2) (f := fx_X7_fail) rfl (Nat.le_of_ble_eq_true rfl) (List.mem_of_getElem? (i := 3) rfl) (Nat.le_of_ble_eq_true rfl) c3 ?_
  exact xe_end rfl rfl rfl
set_option maxRecDepth 100000 in
theorem pt_X4_readLine_6 {I I1 I2 : Nat → Nat → Int32} {L L1 L2 : Nat → Nat → Int64} {k1 : Nat} (c1 : fx_X7_key [.ref 3] (I, L) (some (.ref k1)) (I1, L1)) (h1 : (Nat.beq k1 200) = true) (c2 : fx_X7_seesMan [.ref 64, .ref 3] (I1, L1) (some (.int 0)) (I2, L2)) : ∃ n, xr_X4_readLine n (0, [(0, .ref 5), (1, .ref 3), (2, .ref 64)], [], (I, L)) (some (.int (0 : Int32))) (I2, L2) := by
  refine xe_go 0 (s' := (1, [(0, .ref 5), (1, .ref 3), (2, .ref 64)], [.ref 3], (I, L))) rfl ?_
  refine xe_vir (n := 1) (f := fx_X7_key) rfl (Nat.le_of_ble_eq_true rfl) (List.mem_of_getElem? (i := 0) rfl) (Nat.le_of_ble_eq_true rfl) c1 ?_
  refine xe_bT 5 (A := (15, [(0, .ref 5), (1, .ref 3), (2, .ref 64), (3, .ref k1), (4, .int (Int32.ofInt (-1)))], [], (I1, L1))) (B := (34, [(0, .ref 5), (1, .ref 3), (2, .ref 64), (3, .ref k1), (4, .int (Int32.ofInt (-1)))], [], (I1, L1))) h1 rfl ?_
  refine xe_go 1 (s' := (17, [(0, .ref 5), (1, .ref 3), (2, .ref 64), (3, .ref k1), (4, .int (Int32.ofInt (-1)))], [.ref 64, .ref 3], (I1, L1))) rfl ?_
  refine xe_vir (n := 2) (f := fx_X7_seesMan) rfl (Nat.le_of_ble_eq_true rfl) (List.mem_of_getElem? (i := 1) rfl) (Nat.le_of_ble_eq_true rfl) c2 ?_
  refine xe_go 1 (s' := (24, [(0, .ref 5), (1, .ref 3), (2, .ref 64), (3, .ref k1), (4, .int (Int32.ofInt (-1)))], [.int (0 : Int32)], (I2, L2))) rfl ?_
  exact xe_end rfl rfl rfl
set_option maxRecDepth 100000 in
theorem pt_X4_readLine_7 {I I1 I3 : Nat → Nat → Int32} {L L1 L3 : Nat → Nat → Int64} {k1 : Nat} {r2 : Int32} (c1 : fx_X7_key [.ref 3] (I, L) (some (.ref k1)) (I1, L1)) (h1 : (Nat.beq k1 200) = false) (c2 : fx_kf 0 [.ref k1] (I1, L1) (some (.int r2)) (I1, L1)) (h2 : (xe_cmp .eq r2 (Int32.ofInt (-1))) = true) (c3 : fx_X7_fail [.int (1 : Int32), .ref 3] (I1, L1) (some (.int 0)) (I3, L3)) : ∃ n, xr_X4_readLine n (0, [(0, .ref 5), (1, .ref 3), (2, .ref 64)], [], (I, L)) (some (.int 0)) (I3, L3) := by
  refine xe_go 0 (s' := (1, [(0, .ref 5), (1, .ref 3), (2, .ref 64)], [.ref 3], (I, L))) rfl ?_
  refine xe_vir (n := 1) (f := fx_X7_key) rfl (Nat.le_of_ble_eq_true rfl) (List.mem_of_getElem? (i := 0) rfl) (Nat.le_of_ble_eq_true rfl) c1 ?_
  refine xe_bF 5 (A := (15, [(0, .ref 5), (1, .ref 3), (2, .ref 64), (3, .ref k1), (4, .int (Int32.ofInt (-1)))], [], (I1, L1))) (B := (34, [(0, .ref 5), (1, .ref 3), (2, .ref 64), (3, .ref k1), (4, .int (Int32.ofInt (-1)))], [], (I1, L1))) h1 rfl ?_
  refine xe_go 0 (s' := (35, [(0, .ref 5), (1, .ref 3), (2, .ref 64), (3, .ref k1), (4, .int (Int32.ofInt (-1)))], [.ref k1], (I1, L1))) rfl ?_
  refine xe_kf (n := 1) (f := fx_kf 0) rfl (Nat.le_of_ble_eq_true rfl) (List.mem_of_getElem? (i := 0) rfl) (Nat.le_of_ble_eq_true rfl) c2 ?_
  refine xe_bT 1 (A := (49, [(0, .ref 5), (1, .ref 3), (2, .ref 64), (3, .ref k1), (4, .int (Int32.ofInt (-1)))], [], (I1, L1))) (B := (42, [(0, .ref 5), (1, .ref 3), (2, .ref 64), (3, .ref k1), (4, .int (Int32.ofInt (-1)))], [], (I1, L1))) h2 rfl ?_
  refine xe_go 1 (s' := (51, [(0, .ref 5), (1, .ref 3), (2, .ref 64), (3, .ref k1), (4, .int (Int32.ofInt (-1)))], [.int (1 : Int32), .ref 3], (I1, L1))) rfl ?_
  refine xe_vir (n := 2) (f := fx_X7_fail) rfl (Nat.le_of_ble_eq_true rfl) (List.mem_of_getElem? (i := 3) rfl) (Nat.le_of_ble_eq_true rfl) c3 ?_
  exact xe_end rfl rfl rfl
set_option maxRecDepth 100000 in
theorem pt_X4_readLine_8 {I I1 I3 I4 : Nat → Nat → Int32} {L L1 L3 L4 : Nat → Nat → Int64} {k1 : Nat} {r2 : Int32} (c1 : fx_X7_key [.ref 3] (I, L) (some (.ref k1)) (I1, L1)) (h1 : (Nat.beq k1 200) = false) (c2 : fx_kf 0 [.ref k1] (I1, L1) (some (.int r2)) (I1, L1)) (h2 : (xe_cmp .eq r2 (Int32.ofInt (-1))) = false) (c3 : fx_X2_needsMan [.ref k1] (I1, L1) (some (.int 1)) (I3, L3)) (c4 : fx_X7_fail [.int (1 : Int32), .ref 3] (I3, L3) (some (.int 0)) (I4, L4)) : ∃ n, xr_X4_readLine n (0, [(0, .ref 5), (1, .ref 3), (2, .ref 64)], [], (I, L)) (some (.int 0)) (I4, L4) := by
  refine xe_go 0 (s' := (1, [(0, .ref 5), (1, .ref 3), (2, .ref 64)], [.ref 3], (I, L))) rfl ?_
  refine xe_vir (n := 1) (f := fx_X7_key) rfl (Nat.le_of_ble_eq_true rfl) (List.mem_of_getElem? (i := 0) rfl) (Nat.le_of_ble_eq_true rfl) c1 ?_
  refine xe_bF 5 (A := (15, [(0, .ref 5), (1, .ref 3), (2, .ref 64), (3, .ref k1), (4, .int (Int32.ofInt (-1)))], [], (I1, L1))) (B := (34, [(0, .ref 5), (1, .ref 3), (2, .ref 64), (3, .ref k1), (4, .int (Int32.ofInt (-1)))], [], (I1, L1))) h1 rfl ?_
  refine xe_go 0 (s' := (35, [(0, .ref 5), (1, .ref 3), (2, .ref 64), (3, .ref k1), (4, .int (Int32.ofInt (-1)))], [.ref k1], (I1, L1))) rfl ?_
  refine xe_kf (n := 1) (f := fx_kf 0) rfl (Nat.le_of_ble_eq_true rfl) (List.mem_of_getElem? (i := 0) rfl) (Nat.le_of_ble_eq_true rfl) c2 ?_
  refine xe_bF 1 (A := (49, [(0, .ref 5), (1, .ref 3), (2, .ref 64), (3, .ref k1), (4, .int (Int32.ofInt (-1)))], [], (I1, L1))) (B := (42, [(0, .ref 5), (1, .ref 3), (2, .ref 64), (3, .ref k1), (4, .int (Int32.ofInt (-1)))], [], (I1, L1))) h2 rfl ?_
  refine xe_go 0 (s' := (43, [(0, .ref 5), (1, .ref 3), (2, .ref 64), (3, .ref k1), (4, .int (Int32.ofInt (-1)))], [.ref k1], (I1, L1))) rfl ?_
  refine xe_vir (n := 1) (f := fx_X2_needsMan) rfl (Nat.le_of_ble_eq_true rfl) (List.mem_of_getElem? (i := 2) rfl) (Nat.le_of_ble_eq_true rfl) c3 ?_
  refine xe_go 2 (s' := (51, [(0, .ref 5), (1, .ref 3), (2, .ref 64), (3, .ref k1), (4, .int (Int32.ofInt (-1)))], [.int (1 : Int32), .ref 3], (I3, L3))) rfl ?_
  refine xe_vir (n := 2) (f := fx_X7_fail) rfl (Nat.le_of_ble_eq_true rfl) (List.mem_of_getElem? (i := 3) rfl) (Nat.le_of_ble_eq_true rfl) c4 ?_
  exact xe_end rfl rfl rfl
set_option maxRecDepth 100000 in
theorem pt_X4_readLine_9 {I I1 I3 I4 I5 : Nat → Nat → Int32} {L L1 L3 L4 L5 : Nat → Nat → Int64} {k1 : Nat} {r2 : Int32} (c1 : fx_X7_key [.ref 3] (I, L) (some (.ref k1)) (I1, L1)) (h1 : (Nat.beq k1 200) = false) (c2 : fx_kf 0 [.ref k1] (I1, L1) (some (.int r2)) (I1, L1)) (h2 : (xe_cmp .eq r2 (Int32.ofInt (-1))) = false) (c3 : fx_X2_needsMan [.ref k1] (I1, L1) (some (.int 0)) (I3, L3)) (h3 : (xe_cmp .lt (I3 5 4) (40 : Int32)) = true) (c4 : fx_X7_step [.ref 3] (I3, L3) none (I4, L4)) (h4 : (xe_ib (I4 5 4) 40 && Nat.beq (xe_k k1) 128) = true) (h5 : xe_ib (I4 5 4) 40 = true) (c5 : fx_X4_readRest [.ref k1, .ref 64, .ref 3, .ref 5] ((xu I4 7 (((I4 5 4)).toInt.toNat) (Int32.ofInt (-1))), L4) (some (.int 1)) (I5, L5)) : ∃ n, xr_X4_readLine n (0, [(0, .ref 5), (1, .ref 3), (2, .ref 64)], [], (I, L)) (some (.int 1)) (I5, L5) := by
  refine xe_go 0 (s' := (1, [(0, .ref 5), (1, .ref 3), (2, .ref 64)], [.ref 3], (I, L))) rfl ?_
  refine xe_vir (n := 1) (f := fx_X7_key) rfl (Nat.le_of_ble_eq_true rfl) (List.mem_of_getElem? (i := 0) rfl) (Nat.le_of_ble_eq_true rfl) c1 ?_
  refine xe_bF 5 (A := (15, [(0, .ref 5), (1, .ref 3), (2, .ref 64), (3, .ref k1), (4, .int (Int32.ofInt (-1)))], [], (I1, L1))) (B := (34, [(0, .ref 5), (1, .ref 3), (2, .ref 64), (3, .ref k1), (4, .int (Int32.ofInt (-1)))], [], (I1, L1))) h1 rfl ?_
  refine xe_go 0 (s' := (35, [(0, .ref 5), (1, .ref 3), (2, .ref 64), (3, .ref k1), (4, .int (Int32.ofInt (-1)))], [.ref k1], (I1, L1))) rfl ?_
  refine xe_kf (n := 1) (f := fx_kf 0) rfl (Nat.le_of_ble_eq_true rfl) (List.mem_of_getElem? (i := 0) rfl) (Nat.le_of_ble_eq_true rfl) c2 ?_
  refine xe_bF 1 (A := (49, [(0, .ref 5), (1, .ref 3), (2, .ref 64), (3, .ref k1), (4, .int (Int32.ofInt (-1)))], [], (I1, L1))) (B := (42, [(0, .ref 5), (1, .ref 3), (2, .ref 64), (3, .ref k1), (4, .int (Int32.ofInt (-1)))], [], (I1, L1))) h2 rfl ?_
  refine xe_go 0 (s' := (43, [(0, .ref 5), (1, .ref 3), (2, .ref 64), (3, .ref k1), (4, .int (Int32.ofInt (-1)))], [.ref k1], (I1, L1))) rfl ?_
  refine xe_vir (n := 1) (f := fx_X2_needsMan) rfl (Nat.le_of_ble_eq_true rfl) (List.mem_of_getElem? (i := 2) rfl) (Nat.le_of_ble_eq_true rfl) c3 ?_
  refine xe_bT 4 (A := (70, [(0, .ref 5), (1, .ref 3), (2, .ref 64), (3, .ref k1), (4, .int (Int32.ofInt (-1)))], [], (I3, L3))) (B := (64, [(0, .ref 5), (1, .ref 3), (2, .ref 64), (3, .ref k1), (4, .int (Int32.ofInt (-1)))], [], (I3, L3))) h3 rfl ?_
  refine xe_go 0 (s' := (71, [(0, .ref 5), (1, .ref 3), (2, .ref 64), (3, .ref k1), (4, .int (Int32.ofInt (-1)))], [.ref 3], (I3, L3))) rfl ?_
  refine xe_vir (n := 1) (f := fx_X7_step) rfl (Nat.le_of_ble_eq_true rfl) (List.mem_of_getElem? (i := 4) rfl) (Nat.le_of_ble_eq_true rfl) c4 ?_
  refine xe_ar 8 (A := (112, [(0, .ref 5), (1, .ref 3), (2, .ref 64), (3, .ref k1), (4, .int (Int32.ofInt (-1)))], [], (I4, L4))) h4 rfl ?_
  refine xe_ar 5 (A := (123, [(0, .ref 5), (1, .ref 3), (2, .ref 64), (3, .ref k1), (4, .int (Int32.ofInt (-1)))], [], ((xu I4 7 (((I4 5 4)).toInt.toNat) (Int32.ofInt (-1))), L4))) h5 rfl ?_
  refine xe_go 3 (s' := (127, [(0, .ref 5), (1, .ref 3), (2, .ref 64), (3, .ref k1), (4, .int (Int32.ofInt (-1)))], [.ref k1, .ref 64, .ref 3, .ref 5], ((xu I4 7 (((I4 5 4)).toInt.toNat) (Int32.ofInt (-1))), L4))) rfl ?_
  refine xe_vir (n := 4) (f := fx_X4_readRest) rfl (Nat.le_of_ble_eq_true rfl) (List.mem_of_getElem? (i := 5) rfl) (Nat.le_of_ble_eq_true rfl) c5 ?_
  exact xe_end rfl rfl rfl
set_option maxRecDepth 100000 in
theorem pt_X4_readLine_10 {I I1 I3 I4 I5 : Nat → Nat → Int32} {L L1 L3 L4 L5 : Nat → Nat → Int64} {k1 : Nat} {r2 : Int32} (c1 : fx_X7_key [.ref 3] (I, L) (some (.ref k1)) (I1, L1)) (h1 : (Nat.beq k1 200) = false) (c2 : fx_kf 0 [.ref k1] (I1, L1) (some (.int r2)) (I1, L1)) (h2 : (xe_cmp .eq r2 (Int32.ofInt (-1))) = false) (c3 : fx_X2_needsMan [.ref k1] (I1, L1) (some (.int 0)) (I3, L3)) (h3 : (xe_cmp .lt (I3 5 4) (40 : Int32)) = true) (c4 : fx_X7_step [.ref 3] (I3, L3) none (I4, L4)) (h4 : (xe_ib (I4 5 4) 40 && Nat.beq (xe_k k1) 128) = true) (h5 : xe_ib (I4 5 4) 40 = true) (c5 : fx_X4_readRest [.ref k1, .ref 64, .ref 3, .ref 5] ((xu I4 7 (((I4 5 4)).toInt.toNat) (Int32.ofInt (-1))), L4) (some (.int 0)) (I5, L5)) : ∃ n, xr_X4_readLine n (0, [(0, .ref 5), (1, .ref 3), (2, .ref 64)], [], (I, L)) (some (.int 0)) (I5, L5) := by
  refine xe_go 0 (s' := (1, [(0, .ref 5), (1, .ref 3), (2, .ref 64)], [.ref 3], (I, L))) rfl ?_
  refine xe_vir (n := 1) (f := fx_X7_key) rfl (Nat.le_of_ble_eq_true rfl) (List.mem_of_getElem? (i := 0) rfl) (Nat.le_of_ble_eq_true rfl) c1 ?_
  refine xe_bF 5 (A := (15, [(0, .ref 5), (1, .ref 3), (2, .ref 64), (3, .ref k1), (4, .int (Int32.ofInt (-1)))], [], (I1, L1))) (B := (34, [(0, .ref 5), (1, .ref 3), (2, .ref 64), (3, .ref k1), (4, .int (Int32.ofInt (-1)))], [], (I1, L1))) h1 rfl ?_
  refine xe_go 0 (s' := (35, [(0, .ref 5), (1, .ref 3), (2, .ref 64), (3, .ref k1), (4, .int (Int32.ofInt (-1)))], [.ref k1], (I1, L1))) rfl ?_
  refine xe_kf (n := 1) (f := fx_kf 0) rfl (Nat.le_of_ble_eq_true rfl) (List.mem_of_getElem? (i := 0) rfl) (Nat.le_of_ble_eq_true rfl) c2 ?_
  refine xe_bF 1 (A := (49, [(0, .ref 5), (1, .ref 3), (2, .ref 64), (3, .ref k1), (4, .int (Int32.ofInt (-1)))], [], (I1, L1))) (B := (42, [(0, .ref 5), (1, .ref 3), (2, .ref 64), (3, .ref k1), (4, .int (Int32.ofInt (-1)))], [], (I1, L1))) h2 rfl ?_
  refine xe_go 0 (s' := (43, [(0, .ref 5), (1, .ref 3), (2, .ref 64), (3, .ref k1), (4, .int (Int32.ofInt (-1)))], [.ref k1], (I1, L1))) rfl ?_
  refine xe_vir (n := 1) (f := fx_X2_needsMan) rfl (Nat.le_of_ble_eq_true rfl) (List.mem_of_getElem? (i := 2) rfl) (Nat.le_of_ble_eq_true rfl) c3 ?_
  refine xe_bT 4 (A := (70, [(0, .ref 5), (1, .ref 3), (2, .ref 64), (3, .ref k1), (4, .int (Int32.ofInt (-1)))], [], (I3, L3))) (B := (64, [(0, .ref 5), (1, .ref 3), (2, .ref 64), (3, .ref k1), (4, .int (Int32.ofInt (-1)))], [], (I3, L3))) h3 rfl ?_
  refine xe_go 0 (s' := (71, [(0, .ref 5), (1, .ref 3), (2, .ref 64), (3, .ref k1), (4, .int (Int32.ofInt (-1)))], [.ref 3], (I3, L3))) rfl ?_
  refine xe_vir (n := 1) (f := fx_X7_step) rfl (Nat.le_of_ble_eq_true rfl) (List.mem_of_getElem? (i := 4) rfl) (Nat.le_of_ble_eq_true rfl) c4 ?_
  refine xe_ar 8 (A := (112, [(0, .ref 5), (1, .ref 3), (2, .ref 64), (3, .ref k1), (4, .int (Int32.ofInt (-1)))], [], (I4, L4))) h4 rfl ?_
  refine xe_ar 5 (A := (123, [(0, .ref 5), (1, .ref 3), (2, .ref 64), (3, .ref k1), (4, .int (Int32.ofInt (-1)))], [], ((xu I4 7 (((I4 5 4)).toInt.toNat) (Int32.ofInt (-1))), L4))) h5 rfl ?_
  refine xe_go 3 (s' := (127, [(0, .ref 5), (1, .ref 3), (2, .ref 64), (3, .ref k1), (4, .int (Int32.ofInt (-1)))], [.ref k1, .ref 64, .ref 3, .ref 5], ((xu I4 7 (((I4 5 4)).toInt.toNat) (Int32.ofInt (-1))), L4))) rfl ?_
  refine xe_vir (n := 4) (f := fx_X4_readRest) rfl (Nat.le_of_ble_eq_true rfl) (List.mem_of_getElem? (i := 5) rfl) (Nat.le_of_ble_eq_true rfl) c5 ?_
  exact xe_end rfl rfl rfl
set_option maxRecDepth 100000 in
theorem pt_X4_readLine_11 {I I1 I3 I4 : Nat → Nat → Int32} {L L1 L3 L4 : Nat → Nat → Int64} {k1 : Nat} {r2 : Int32} (c1 : fx_X7_key [.ref 3] (I, L) (some (.ref k1)) (I1, L1)) (h1 : (Nat.beq k1 200) = false) (c2 : fx_kf 0 [.ref k1] (I1, L1) (some (.int r2)) (I1, L1)) (h2 : (xe_cmp .eq r2 (Int32.ofInt (-1))) = false) (c3 : fx_X2_needsMan [.ref k1] (I1, L1) (some (.int 0)) (I3, L3)) (h3 : (xe_cmp .lt (I3 5 4) (40 : Int32)) = false) (c4 : fx_X7_fail [.int (4 : Int32), .ref 3] (I3, L3) (some (.int 0)) (I4, L4)) : ∃ n, xr_X4_readLine n (0, [(0, .ref 5), (1, .ref 3), (2, .ref 64)], [], (I, L)) (some (.int 0)) (I4, L4) := by
  refine xe_go 0 (s' := (1, [(0, .ref 5), (1, .ref 3), (2, .ref 64)], [.ref 3], (I, L))) rfl ?_
  refine xe_vir (n := 1) (f := fx_X7_key) rfl (Nat.le_of_ble_eq_true rfl) (List.mem_of_getElem? (i := 0) rfl) (Nat.le_of_ble_eq_true rfl) c1 ?_
  refine xe_bF 5 (A := (15, [(0, .ref 5), (1, .ref 3), (2, .ref 64), (3, .ref k1), (4, .int (Int32.ofInt (-1)))], [], (I1, L1))) (B := (34, [(0, .ref 5), (1, .ref 3), (2, .ref 64), (3, .ref k1), (4, .int (Int32.ofInt (-1)))], [], (I1, L1))) h1 rfl ?_
  refine xe_go 0 (s' := (35, [(0, .ref 5), (1, .ref 3), (2, .ref 64), (3, .ref k1), (4, .int (Int32.ofInt (-1)))], [.ref k1], (I1, L1))) rfl ?_
  refine xe_kf (n := 1) (f := fx_kf 0) rfl (Nat.le_of_ble_eq_true rfl) (List.mem_of_getElem? (i := 0) rfl) (Nat.le_of_ble_eq_true rfl) c2 ?_
  refine xe_bF 1 (A := (49, [(0, .ref 5), (1, .ref 3), (2, .ref 64), (3, .ref k1), (4, .int (Int32.ofInt (-1)))], [], (I1, L1))) (B := (42, [(0, .ref 5), (1, .ref 3), (2, .ref 64), (3, .ref k1), (4, .int (Int32.ofInt (-1)))], [], (I1, L1))) h2 rfl ?_
  refine xe_go 0 (s' := (43, [(0, .ref 5), (1, .ref 3), (2, .ref 64), (3, .ref k1), (4, .int (Int32.ofInt (-1)))], [.ref k1], (I1, L1))) rfl ?_
  refine xe_vir (n := 1) (f := fx_X2_needsMan) rfl (Nat.le_of_ble_eq_true rfl) (List.mem_of_getElem? (i := 2) rfl) (Nat.le_of_ble_eq_true rfl) c3 ?_
  refine xe_bF 4 (A := (70, [(0, .ref 5), (1, .ref 3), (2, .ref 64), (3, .ref k1), (4, .int (Int32.ofInt (-1)))], [], (I3, L3))) (B := (64, [(0, .ref 5), (1, .ref 3), (2, .ref 64), (3, .ref k1), (4, .int (Int32.ofInt (-1)))], [], (I3, L3))) h3 rfl ?_
  refine xe_go 1 (s' := (66, [(0, .ref 5), (1, .ref 3), (2, .ref 64), (3, .ref k1), (4, .int (Int32.ofInt (-1)))], [.int (4 : Int32), .ref 3], (I3, L3))) rfl ?_
  refine xe_vir (n := 2) (f := fx_X7_fail) rfl (Nat.le_of_ble_eq_true rfl) (List.mem_of_getElem? (i := 3) rfl) (Nat.le_of_ble_eq_true rfl) c4 ?_
  exact xe_end rfl rfl rfl
def xi_X4_read : List (Nat × Nat × Instr) := [(0, 1, .aload_n 0), (1, 1, .iconst 0), (2, 3, .putfield 31), (5, 1, .aload_n 1), (6, 3, .sipush 400), (9, 3, .invokevirtual 35), (12, 1, .iconst 0), (13, 1, .istore_n 3), (14, 1, .iload_n 3), (15, 2, .bipush 40), (17, 3, .if_icmp .gt 36), (20, 1, .aload_n 1), (21, 3, .getfield 41), (24, 3, .ifCond .eq 29), (27, 1, .aload_n 0), (28, 1, .aload_n 1), (29, 1, .aload_n 2), (30, 3, .invokevirtual 44), (33, 3, .ifCond .eq 12), (36, 1, .aload_n 1), (37, 2, .bipush 59), (39, 3, .invokevirtual 48), (42, 3, .ifCond .ne 5), (45, 1, .iconst 0), (46, 1, .ireturn), (47, 3, .iinc 3 1), (50, 3, .goto (-36)), (53, 1, .iconst 1), (54, 1, .ireturn)]
def xg_X4_read : zf_ft := [(41, 5, 4, .inl (0, 0))]
def xp_X4_read : zf_ft := [(31, 2, 4, .inl ((-2147483648), 2147483647))]
def xv_X4_read : List (Nat × Nat × xe_F) := [(35, 2, fx_X7_open), (44, 3, fx_X4_readLine), (48, 2, fx_X7_takeSign)]
def xt_X4_read : List (Nat × Nat × xe_F) := []
abbrev xr_X4_read := xe_run xGT xSC xRF 4 xg_X4_read xp_X4_read [] [] (xv_X4_read) xt_X4_read xi_X4_read
def fx_X4_read : xe_F := fun us hp v hp' => (us.map fun v => v.category).sum ≤ 4 ∧ xe_rt (some .boolean) v ∧ (∃ ar, us = ar ++ [.ref 5]) ∧ ∃ n, xr_X4_read n (0, xe_ag 0 us.reverse, [], hp) v hp'
theorem mk_X4_read  {hp hp' : xe_H} {v : Option Value} (hr : xe_rt (some .boolean) v) (h : ∃ n, xr_X4_read n (0, [(0, .ref 5), (1, .ref 3), (2, .ref 64)], [], hp) v hp') : fx_X4_read [.ref 64, .ref 3, .ref 5] hp v hp' := ⟨Nat.le_of_ble_eq_true rfl, hr, ⟨[.ref 64, .ref 3], rfl⟩, h⟩
theorem hx_X4_read : ∀ us hp v hp', fx_X4_read us hp v hp' → (us.map fun v => v.category).sum ≤ 4 ∧ xe_rt (some .boolean) v ∧ ∃ n, xr_X4_read n (0, xe_ag 0 us.reverse, [], hp) v hp' := fun us hp v hp' h => ⟨h.1, h.2.1, h.2.2.2⟩
theorem fr_X4_read : ∀ us hp v hp', fx_X4_read us hp v hp' → ∃ ar, us = ar ++ [.ref 5] := fun us hp v hp' h => h.2.2.1
set_option maxRecDepth 100000 in
set_option maxHeartbeats 4000000 in
theorem kx_X4_read (l : Launch) (D : va_G) (k : Nat → ClassId) (B0 : Nat) (ad : Nat → Nat) (al sw : Nat) : xe_Con l yX4_read (zw yX4_read cX4_read 4 (some .boolean)) ({ frames := 5, cells := 0, slots := 0, locals := 114 }) D k ad (zEx B0 ad al sw) xGT xSC xRF (fx_X4_read) := by
  have hEx := zEx_ok B0 ad al sw
  refine xe_mk (cc := cX4_read) (nL := 4) (ret := (some .boolean)) (fg := xg_X4_read) (fp := xp_X4_read) (sg := []) (lc := []) (cv := xv_X4_read) (cs := xt_X4_read) (ins := xi_X4_read) (by decide) rfl hEx (by decide +kernel) hx_X4_read ?_
  intro p e s m args below meth c Q Sg w0 A θ S hK hE hAB hA hth
  refine ⟨?_, ?_, ?_, ?_, ?_, ?_⟩
  · exact zf_ac ((fun H locs ws a q0 fs v rest pc ls hP he hv hdg kk => va_get (D := D) (ci := 5) (C := RX7) (T := TX7) (N := 11) (own := RX4) S.1 S.2.1 S.2.2.2.2 (zg_in inW_X7) S.2.2.2.1 hK hP q0 he rfl 4 (by decide) (S.2.2.2.2 (.fieldLink RX4 41 "RungMoney$Reader" "kind" "I") (List.mem_cons_of_mem _ zw_154)) (fun _ h9 => h9) hv hdg kk)) zf_an
  · exact zf_ac ((fun H locs ws a q0 fs v rest pc ls hP hD hS he hl hv hdg kk => by obtain ⟨x, rfl, h1, h2⟩ := hv; exact va_put (D := D) (ci := 2) (v := .int x) (ty := .int) (C := RX4) (T := TX4) (N := 7) (own := RX4) S.1 S.2.1 S.2.2.2.2 (zg_in inW_X4) tyX4 tyX4_ok nmX4 S.2.2.2.1 hK hP hD hS q0 he rfl 4 (by decide) (S.2.2.2.2 (.fieldLink RX4 31 "RungMoney$Ledger" "size" "I") (List.mem_cons_of_mem _ zw_345)) (fun _ h9 => h9) rfl (by decide +kernel) rfl rfl hl hdg kk)) zf_an
  · exact xe_n2
  · exact xe_n3
  · exact xe_a4 (xe_crV S hEx hE hAB hA hK hth (kx_X7_open l D k B0 ad al sw) (cwV 1 S.2.2.2.2 (zg_V zw_1042 zw_490 zw_491 zw_97 zw_492) rfl rfl rfl (by decide +kernel) ⟨(Nat.le_of_ble_eq_true rfl), (Nat.le_of_ble_eq_true rfl)⟩) ⟨(Nat.le_of_ble_eq_true rfl), (Nat.le_of_ble_eq_true rfl)⟩ 5 rfl rfl 3 (by decide +kernel) fr_X7_open) (xe_a4 (xe_crV S hEx hE hAB hA hK hth (kx_X4_readLine l D k B0 ad al sw) (cwV 2 S.2.2.2.2 (zg_V zw_1043 zw_1045 zw_13 zw_105 zw_1046) rfl rfl rfl (by decide +kernel) ⟨(Nat.le_of_ble_eq_true rfl), (Nat.le_of_ble_eq_true rfl)⟩) ⟨(Nat.le_of_ble_eq_true rfl), (Nat.le_of_ble_eq_true rfl)⟩ 2 rfl rfl 5 (by decide +kernel) fr_X4_readLine) (xe_a4 (xe_crV S hEx hE hAB hA hK hth (kx_X7_takeSign l D k B0 ad al sw) (cwV 1 S.2.2.2.2 (zg_V zw_1066 zw_601 zw_602 zw_97 zw_603) rfl rfl rfl (by decide +kernel) ⟨(Nat.le_of_ble_eq_true rfl), (Nat.le_of_ble_eq_true rfl)⟩) ⟨(Nat.le_of_ble_eq_true rfl), (Nat.le_of_ble_eq_true rfl)⟩ 5 rfl rfl 3 (by decide +kernel) fr_X7_takeSign) xe_n4))
  · exact xe_n4
set_option maxRecDepth 100000 in
theorem pt_X4_read_0 {I I1 : Nat → Nat → Int32} {L L1 : Nat → Nat → Int64} (c1 : fx_X7_open [.int (400 : Int32), .ref 3] ((xu I 5 4 (0 : Int32)), L) none (I1, L1)) {v9 : Option Value} {hp9 : xe_H} (r9 : ∃ n, xr_X4_read n (14, [(0, .ref 5), (1, .ref 3), (2, .ref 64), (3, .int (0 : Int32))], [], (I1, L1)) v9 hp9) : ∃ n, xr_X4_read n (0, [(0, .ref 5), (1, .ref 3), (2, .ref 64)], [], (I, L)) v9 hp9 := by
  refine xe_go 4 (s' := (9, [(0, .ref 5), (1, .ref 3), (2, .ref 64)], [.int (400 : Int32), .ref 3], ((xu I 5 4 (0 : Int32)), L))) rfl ?_
  refine xe_vir (n := 2) (f := fx_X7_open) rfl (Nat.le_of_ble_eq_true rfl) (List.mem_of_getElem? (i := 0) rfl) (Nat.le_of_ble_eq_true rfl) c1 ?_
  refine xe_go 1 (s' := (14, [(0, .ref 5), (1, .ref 3), (2, .ref 64), (3, .int (0 : Int32))], [], (I1, L1))) rfl ?_
  exact xe_nrm [0, 1, 2, 3] rfl r9
set_option maxRecDepth 100000 in
theorem pt_X4_read_1 {l3 : Int32} {I : Nat → Nat → Int32} {L : Nat → Nat → Int64} (h1 : (xe_cmp .gt l3 (40 : Int32)) = true) : ∃ n, xr_X4_read n (14, [(0, .ref 5), (1, .ref 3), (2, .ref 64), (3, .int l3)], [], (I, L)) (some (.int (1 : Int32))) (I, L) := by
  refine xe_bT 2 (A := (53, [(0, .ref 5), (1, .ref 3), (2, .ref 64), (3, .int l3)], [], (I, L))) (B := (20, [(0, .ref 5), (1, .ref 3), (2, .ref 64), (3, .int l3)], [], (I, L))) h1 rfl ?_
  refine xe_go 0 (s' := (54, [(0, .ref 5), (1, .ref 3), (2, .ref 64), (3, .int l3)], [.int (1 : Int32)], (I, L))) rfl ?_
  exact xe_end rfl rfl rfl
set_option maxRecDepth 100000 in
theorem pt_X4_read_2 {l3 : Int32} {I : Nat → Nat → Int32} {L : Nat → Nat → Int64} (h1 : (xe_cmp .gt l3 (40 : Int32)) = false) (h2 : (xe_cmp .eq (I 3 4) 0) = true) : ∃ n, xr_X4_read n (14, [(0, .ref 5), (1, .ref 3), (2, .ref 64), (3, .int l3)], [], (I, L)) (some (.int (1 : Int32))) (I, L) := by
  refine xe_bF 2 (A := (53, [(0, .ref 5), (1, .ref 3), (2, .ref 64), (3, .int l3)], [], (I, L))) (B := (20, [(0, .ref 5), (1, .ref 3), (2, .ref 64), (3, .int l3)], [], (I, L))) h1 rfl ?_
  refine xe_bT 2 (A := (53, [(0, .ref 5), (1, .ref 3), (2, .ref 64), (3, .int l3)], [], (I, L))) (B := (27, [(0, .ref 5), (1, .ref 3), (2, .ref 64), (3, .int l3)], [], (I, L))) h2 rfl ?_
  refine xe_go 0 (s' := (54, [(0, .ref 5), (1, .ref 3), (2, .ref 64), (3, .int l3)], [.int (1 : Int32)], (I, L))) rfl ?_
  exact xe_end rfl rfl rfl
set_option maxRecDepth 100000 in
theorem pt_X4_read_3 {l3 : Int32} {I I1 I2 : Nat → Nat → Int32} {L L1 L2 : Nat → Nat → Int64} (h1 : (xe_cmp .gt l3 (40 : Int32)) = false) (h2 : (xe_cmp .eq (I 3 4) 0) = false) (c1 : fx_X4_readLine [.ref 64, .ref 3, .ref 5] (I, L) (some (.int 1)) (I1, L1)) (c2 : fx_X7_takeSign [.int (59 : Int32), .ref 3] (I1, L1) (some (.int 1)) (I2, L2)) {v9 : Option Value} {hp9 : xe_H} (r9 : ∃ n, xr_X4_read n (14, [(0, .ref 5), (1, .ref 3), (2, .ref 64), (3, .int (l3 + (1 : Int32)))], [], (I2, L2)) v9 hp9) : ∃ n, xr_X4_read n (14, [(0, .ref 5), (1, .ref 3), (2, .ref 64), (3, .int l3)], [], (I, L)) v9 hp9 := by
  refine xe_bF 2 (A := (53, [(0, .ref 5), (1, .ref 3), (2, .ref 64), (3, .int l3)], [], (I, L))) (B := (20, [(0, .ref 5), (1, .ref 3), (2, .ref 64), (3, .int l3)], [], (I, L))) h1 rfl ?_
  refine xe_bF 2 (A := (53, [(0, .ref 5), (1, .ref 3), (2, .ref 64), (3, .int l3)], [], (I, L))) (B := (27, [(0, .ref 5), (1, .ref 3), (2, .ref 64), (3, .int l3)], [], (I, L))) h2 rfl ?_
  refine xe_go 2 (s' := (30, [(0, .ref 5), (1, .ref 3), (2, .ref 64), (3, .int l3)], [.ref 64, .ref 3, .ref 5], (I, L))) rfl ?_
  refine xe_vir (n := 3) (f := fx_X4_readLine) rfl (Nat.le_of_ble_eq_true rfl) (List.mem_of_getElem? (i := 1) rfl) (Nat.le_of_ble_eq_true rfl) c1 ?_
  refine xe_go 2 (s' := (39, [(0, .ref 5), (1, .ref 3), (2, .ref 64), (3, .int l3)], [.int (59 : Int32), .ref 3], (I1, L1))) rfl ?_
  refine xe_vir (n := 2) (f := fx_X7_takeSign) rfl (Nat.le_of_ble_eq_true rfl) (List.mem_of_getElem? (i := 2) rfl) (Nat.le_of_ble_eq_true rfl) c2 ?_
  refine xe_go 2 (s' := (14, [(0, .ref 5), (1, .ref 3), (2, .ref 64), (3, .int (l3 + (1 : Int32)))], [], (I2, L2))) rfl ?_
  exact xe_nrm [0, 1, 2, 3] rfl r9
set_option maxRecDepth 100000 in
theorem pt_X4_read_4 {l3 : Int32} {I I1 I2 : Nat → Nat → Int32} {L L1 L2 : Nat → Nat → Int64} (h1 : (xe_cmp .gt l3 (40 : Int32)) = false) (h2 : (xe_cmp .eq (I 3 4) 0) = false) (c1 : fx_X4_readLine [.ref 64, .ref 3, .ref 5] (I, L) (some (.int 1)) (I1, L1)) (c2 : fx_X7_takeSign [.int (59 : Int32), .ref 3] (I1, L1) (some (.int 0)) (I2, L2)) : ∃ n, xr_X4_read n (14, [(0, .ref 5), (1, .ref 3), (2, .ref 64), (3, .int l3)], [], (I, L)) (some (.int (0 : Int32))) (I2, L2) := by
  refine xe_bF 2 (A := (53, [(0, .ref 5), (1, .ref 3), (2, .ref 64), (3, .int l3)], [], (I, L))) (B := (20, [(0, .ref 5), (1, .ref 3), (2, .ref 64), (3, .int l3)], [], (I, L))) h1 rfl ?_
  refine xe_bF 2 (A := (53, [(0, .ref 5), (1, .ref 3), (2, .ref 64), (3, .int l3)], [], (I, L))) (B := (27, [(0, .ref 5), (1, .ref 3), (2, .ref 64), (3, .int l3)], [], (I, L))) h2 rfl ?_
  refine xe_go 2 (s' := (30, [(0, .ref 5), (1, .ref 3), (2, .ref 64), (3, .int l3)], [.ref 64, .ref 3, .ref 5], (I, L))) rfl ?_
  refine xe_vir (n := 3) (f := fx_X4_readLine) rfl (Nat.le_of_ble_eq_true rfl) (List.mem_of_getElem? (i := 1) rfl) (Nat.le_of_ble_eq_true rfl) c1 ?_
  refine xe_go 2 (s' := (39, [(0, .ref 5), (1, .ref 3), (2, .ref 64), (3, .int l3)], [.int (59 : Int32), .ref 3], (I1, L1))) rfl ?_
  refine xe_vir (n := 2) (f := fx_X7_takeSign) rfl (Nat.le_of_ble_eq_true rfl) (List.mem_of_getElem? (i := 2) rfl) (Nat.le_of_ble_eq_true rfl) c2 ?_
  refine xe_go 1 (s' := (46, [(0, .ref 5), (1, .ref 3), (2, .ref 64), (3, .int l3)], [.int (0 : Int32)], (I2, L2))) rfl ?_
  exact xe_end rfl rfl rfl
set_option maxRecDepth 100000 in
theorem pt_X4_read_5 {l3 : Int32} {I I1 : Nat → Nat → Int32} {L L1 : Nat → Nat → Int64} (h1 : (xe_cmp .gt l3 (40 : Int32)) = false) (h2 : (xe_cmp .eq (I 3 4) 0) = false) (c1 : fx_X4_readLine [.ref 64, .ref 3, .ref 5] (I, L) (some (.int 0)) (I1, L1)) : ∃ n, xr_X4_read n (14, [(0, .ref 5), (1, .ref 3), (2, .ref 64), (3, .int l3)], [], (I, L)) (some (.int (0 : Int32))) (I1, L1) := by
  refine xe_bF 2 (A := (53, [(0, .ref 5), (1, .ref 3), (2, .ref 64), (3, .int l3)], [], (I, L))) (B := (20, [(0, .ref 5), (1, .ref 3), (2, .ref 64), (3, .int l3)], [], (I, L))) h1 rfl ?_
  refine xe_bF 2 (A := (53, [(0, .ref 5), (1, .ref 3), (2, .ref 64), (3, .int l3)], [], (I, L))) (B := (27, [(0, .ref 5), (1, .ref 3), (2, .ref 64), (3, .int l3)], [], (I, L))) h2 rfl ?_
  refine xe_go 2 (s' := (30, [(0, .ref 5), (1, .ref 3), (2, .ref 64), (3, .int l3)], [.ref 64, .ref 3, .ref 5], (I, L))) rfl ?_
  refine xe_vir (n := 3) (f := fx_X4_readLine) rfl (Nat.le_of_ble_eq_true rfl) (List.mem_of_getElem? (i := 1) rfl) (Nat.le_of_ble_eq_true rfl) c1 ?_
  refine xe_go 1 (s' := (46, [(0, .ref 5), (1, .ref 3), (2, .ref 64), (3, .int l3)], [.int (0 : Int32)], (I1, L1))) rfl ?_
  exact xe_end rfl rfl rfl

def xi_X9_hasRoom : List (Nat × Nat × Instr) := [(0, 1, .aload_n 0), (1, 3, .getfield 13), (4, 2, .bipush 20), (6, 1, .iadd), (7, 3, .sipush 940), (10, 3, .if_icmp .gt 7), (13, 1, .iconst 1), (14, 3, .goto 4), (17, 1, .iconst 0), (18, 1, .ireturn)]
def xg_X9_hasRoom : zf_ft := [(13, 7, 1, .inl (0, 0))]
def xp_X9_hasRoom : zf_ft := []
def xv_X9_hasRoom : List (Nat × Nat × xe_F) := []
def xt_X9_hasRoom : List (Nat × Nat × xe_F) := []
abbrev xr_X9_hasRoom := xe_run xGT xSC xRF 1 xg_X9_hasRoom xp_X9_hasRoom [] [] xv_X9_hasRoom xt_X9_hasRoom xi_X9_hasRoom
def fx_X9_hasRoom : xe_F := fun us hp v hp' => (us.map fun v => v.category).sum ≤ 1 ∧ xe_rt (some .boolean) v ∧ (∃ ar, us = ar ++ [.ref 1]) ∧ ∃ n, xr_X9_hasRoom n (0, xe_ag 0 us.reverse, [], hp) v hp'
theorem mk_X9_hasRoom  {hp hp' : xe_H} {v : Option Value} (hr : xe_rt (some .boolean) v) (h : ∃ n, xr_X9_hasRoom n (0, [(0, .ref 1)], [], hp) v hp') : fx_X9_hasRoom [.ref 1] hp v hp' := ⟨Nat.le_of_ble_eq_true rfl, hr, ⟨[], rfl⟩, h⟩
theorem hx_X9_hasRoom : ∀ us hp v hp', fx_X9_hasRoom us hp v hp' → (us.map fun v => v.category).sum ≤ 1 ∧ xe_rt (some .boolean) v ∧ ∃ n, xr_X9_hasRoom n (0, xe_ag 0 us.reverse, [], hp) v hp' := fun us hp v hp' h => ⟨h.1, h.2.1, h.2.2.2⟩
theorem fr_X9_hasRoom : ∀ us hp v hp', fx_X9_hasRoom us hp v hp' → ∃ ar, us = ar ++ [.ref 1] := fun us hp v hp' h => h.2.2.1
set_option maxRecDepth 100000 in
set_option maxHeartbeats 4000000 in
theorem kx_X9_hasRoom (l : Launch) (D : va_G) (k : Nat → ClassId) (B0 : Nat) (ad : Nat → Nat) (al sw : Nat) : xe_Con l yX9_hasRoom (zw yX9_hasRoom cX9_hasRoom 1 (some .boolean)) ({ frames := 0, cells := 0, slots := 0, locals := 0 }) D k ad (zEx B0 ad al sw) xGT xSC xRF fx_X9_hasRoom := by
  have hEx := zEx_ok B0 ad al sw
  refine xe_mk (cc := cX9_hasRoom) (nL := 1) (ret := (some .boolean)) (fg := xg_X9_hasRoom) (fp := xp_X9_hasRoom) (sg := []) (lc := []) (cv := xv_X9_hasRoom) (cs := xt_X9_hasRoom) (ins := xi_X9_hasRoom) (by decide) rfl hEx (by decide +kernel) hx_X9_hasRoom ?_
  intro p e s m args below meth c Q Sg w0 A θ S hK hE hAB hA hth
  refine ⟨?_, ?_, ?_, ?_, ?_, ?_⟩
  · exact zf_ac ((fun H locs ws a q0 fs v rest pc ls hP he hv hdg kk => va_get (D := D) (ci := 7) (C := RX9) (T := TX9) (N := 2) (own := RX9) S.1 S.2.1 S.2.2.2.2 (zg_in inW_X9) S.2.2.2.1 hK hP q0 he rfl 1 (by decide) (S.2.2.2.2 (.fieldLink RX9 13 "RungMoney$Tape" "size" "I") (List.mem_cons_of_mem _ zw_135)) (fun _ h9 => h9) hv hdg kk)) zf_an
  · exact zf_an
  · exact xe_n2
  · exact xe_n3
  · exact xe_n4
  · exact xe_n4
set_option maxRecDepth 100000 in
theorem pt_X9_hasRoom_0 {I : Nat → Nat → Int32} {L : Nat → Nat → Int64} (h1 : (xe_cmp .gt ((I 1 1) + (20 : Int32)) (940 : Int32)) = true) : ∃ n, xr_X9_hasRoom n (0, [(0, .ref 1)], [], (I, L)) (some (.int (0 : Int32))) (I, L) := by
  refine xe_bT 5 (A := (17, [(0, .ref 1)], [], (I, L))) (B := (13, [(0, .ref 1)], [], (I, L))) h1 rfl ?_
  refine xe_go 0 (s' := (18, [(0, .ref 1)], [.int (0 : Int32)], (I, L))) rfl ?_
  exact xe_end rfl rfl rfl
set_option maxRecDepth 100000 in
theorem pt_X9_hasRoom_1 {I : Nat → Nat → Int32} {L : Nat → Nat → Int64} (h1 : (xe_cmp .gt ((I 1 1) + (20 : Int32)) (940 : Int32)) = false) : ∃ n, xr_X9_hasRoom n (0, [(0, .ref 1)], [], (I, L)) (some (.int (1 : Int32))) (I, L) := by
  refine xe_bF 5 (A := (17, [(0, .ref 1)], [], (I, L))) (B := (13, [(0, .ref 1)], [], (I, L))) h1 rfl ?_
  refine xe_go 1 (s' := (18, [(0, .ref 1)], [.int (1 : Int32)], (I, L))) rfl ?_
  exact xe_end rfl rfl rfl
def xi_X9_add : List (Nat × Nat × Instr) := [(0, 2, .bipush 24), (2, 1, .istore_n 2), (3, 1, .iload_n 2), (4, 3, .ifCond .lt 45), (7, 1, .aload_n 0), (8, 3, .getfield 13), (11, 3, .sipush 940), (14, 3, .if_icmp .ge 35), (17, 1, .aload_n 0), (18, 3, .getfield 9), (21, 1, .aload_n 0), (22, 3, .getfield 13), (25, 1, .iload_n 1), (26, 1, .iload_n 2), (27, 1, .iushr), (28, 3, .sipush 255), (31, 1, .iand), (32, 1, .iastore), (33, 1, .aload_n 0), (34, 1, .dup), (35, 3, .getfield 13), (38, 1, .iconst 1), (39, 1, .iadd), (40, 3, .putfield 13), (43, 3, .iinc 2 (-8)), (46, 3, .goto (-43)), (49, 1, .return_)]
def xg_X9_add : zf_ft := [(13, 7, 1, .inl (0, 0)), (9, 7, 0, .inl (0, 0))]
def xp_X9_add : zf_ft := [(13, 7, 1, .inl ((-2147483648), 2147483647))]
def xv_X9_add : List (Nat × Nat × xe_F) := []
def xt_X9_add : List (Nat × Nat × xe_F) := []
abbrev xr_X9_add := xe_run xGT xSC xRF 3 xg_X9_add xp_X9_add [] [] xv_X9_add xt_X9_add xi_X9_add
def fx_X9_add : xe_F := fun us hp v hp' => (us.map fun v => v.category).sum ≤ 3 ∧ xe_rt none v ∧ (∃ ar, us = ar ++ [.ref 1]) ∧ ∃ n, xr_X9_add n (0, xe_ag 0 us.reverse, [], hp) v hp'
theorem mk_X9_add {a1 : Int32} {hp hp' : xe_H} {v : Option Value} (hr : xe_rt none v) (h : ∃ n, xr_X9_add n (0, [(0, .ref 1), (1, .int a1)], [], hp) v hp') : fx_X9_add [.int a1, .ref 1] hp v hp' := ⟨Nat.le_of_ble_eq_true rfl, hr, ⟨[.int a1], rfl⟩, h⟩
theorem hx_X9_add : ∀ us hp v hp', fx_X9_add us hp v hp' → (us.map fun v => v.category).sum ≤ 3 ∧ xe_rt none v ∧ ∃ n, xr_X9_add n (0, xe_ag 0 us.reverse, [], hp) v hp' := fun us hp v hp' h => ⟨h.1, h.2.1, h.2.2.2⟩
theorem fr_X9_add : ∀ us hp v hp', fx_X9_add us hp v hp' → ∃ ar, us = ar ++ [.ref 1] := fun us hp v hp' h => h.2.2.1
set_option maxRecDepth 100000 in
set_option maxHeartbeats 4000000 in
theorem kx_X9_add (l : Launch) (D : va_G) (k : Nat → ClassId) (B0 : Nat) (ad : Nat → Nat) (al sw : Nat) : xe_Con l yX9_add (zw yX9_add cX9_add 3 none) ({ frames := 0, cells := 0, slots := 0, locals := 0 }) D k ad (zEx B0 ad al sw) xGT xSC xRF fx_X9_add := by
  have hEx := zEx_ok B0 ad al sw
  refine xe_mk (cc := cX9_add) (nL := 3) (ret := none) (fg := xg_X9_add) (fp := xp_X9_add) (sg := []) (lc := []) (cv := xv_X9_add) (cs := xt_X9_add) (ins := xi_X9_add) (by decide) rfl hEx (by decide +kernel) hx_X9_add ?_
  intro p e s m args below meth c Q Sg w0 A θ S hK hE hAB hA hth
  refine ⟨?_, ?_, ?_, ?_, ?_, ?_⟩
  · exact zf_ac ((fun H locs ws a q0 fs v rest pc ls hP he hv hdg kk => va_get (D := D) (ci := 7) (C := RX9) (T := TX9) (N := 2) (own := RX9) S.1 S.2.1 S.2.2.2.2 (zg_in inW_X9) S.2.2.2.1 hK hP q0 he rfl 1 (by decide) (S.2.2.2.2 (.fieldLink RX9 13 "RungMoney$Tape" "size" "I") (List.mem_cons_of_mem _ zw_135)) (fun _ h9 => h9) hv hdg kk)) (zf_ac ((fun H locs ws a q0 fs v rest pc ls hP he hv hdg kk => va_get (D := D) (ci := 7) (C := RX9) (T := TX9) (N := 2) (own := RX9) S.1 S.2.1 S.2.2.2.2 (zg_in inW_X9) S.2.2.2.1 hK hP q0 he rfl 0 (by decide) (S.2.2.2.2 (.fieldLink RX9 9 "RungMoney$Tape" "bytes" "[I") (List.mem_cons_of_mem _ zw_132)) (fun _ h9 => h9) hv hdg kk)) zf_an)
  · exact zf_ac ((fun H locs ws a q0 fs v rest pc ls hP hD hS he hl hv hdg kk => by obtain ⟨x, rfl, h1, h2⟩ := hv; exact va_put (D := D) (ci := 7) (v := .int x) (ty := .int) (C := RX9) (T := TX9) (N := 2) (own := RX9) S.1 S.2.1 S.2.2.2.2 (zg_in inW_X9) tyX9 tyX9_ok nmX9 S.2.2.2.1 hK hP hD hS q0 he rfl 1 (by decide) (S.2.2.2.2 (.fieldLink RX9 13 "RungMoney$Tape" "size" "I") (List.mem_cons_of_mem _ zw_135)) (fun _ h9 => h9) rfl (by decide +kernel) rfl rfl hl hdg kk)) zf_an
  · exact xe_n2
  · exact xe_n3
  · exact xe_n4
  · exact xe_n4
set_option maxRecDepth 100000 in
theorem pt_X9_add_0 {a1 : Int32} {I : Nat → Nat → Int32} {L : Nat → Nat → Int64} {v9 : Option Value} {hp9 : xe_H} (r9 : ∃ n, xr_X9_add n (3, [(0, .ref 1), (1, .int a1), (2, .int (24 : Int32))], [], (I, L)) v9 hp9) : ∃ n, xr_X9_add n (0, [(0, .ref 1), (1, .int a1)], [], (I, L)) v9 hp9 := by
  refine xe_go 1 (s' := (3, [(0, .ref 1), (1, .int a1), (2, .int (24 : Int32))], [], (I, L))) rfl ?_
  exact xe_nrm [0, 1, 2] rfl r9
set_option maxRecDepth 100000 in
theorem pt_X9_add_1 {l1 l2 : Int32} {I : Nat → Nat → Int32} {L : Nat → Nat → Int64} (h1 : (xe_cmp .lt l2 0) = true) : ∃ n, xr_X9_add n (3, [(0, .ref 1), (1, .int l1), (2, .int l2)], [], (I, L)) none (I, L) := by
  refine xe_bT 1 (A := (49, [(0, .ref 1), (1, .int l1), (2, .int l2)], [], (I, L))) (B := (7, [(0, .ref 1), (1, .int l1), (2, .int l2)], [], (I, L))) h1 rfl ?_
  exact xe_end rfl rfl rfl
set_option maxRecDepth 100000 in
theorem pt_X9_add_2 {l1 l2 : Int32} {I : Nat → Nat → Int32} {L : Nat → Nat → Int64} (h1 : (xe_cmp .lt l2 0) = false) (h2 : (xe_cmp .ge (I 1 1) (940 : Int32)) = true) : ∃ n, xr_X9_add n (3, [(0, .ref 1), (1, .int l1), (2, .int l2)], [], (I, L)) none (I, L) := by
  refine xe_bF 1 (A := (49, [(0, .ref 1), (1, .int l1), (2, .int l2)], [], (I, L))) (B := (7, [(0, .ref 1), (1, .int l1), (2, .int l2)], [], (I, L))) h1 rfl ?_
  refine xe_bT 3 (A := (49, [(0, .ref 1), (1, .int l1), (2, .int l2)], [], (I, L))) (B := (17, [(0, .ref 1), (1, .int l1), (2, .int l2)], [], (I, L))) h2 rfl ?_
  exact xe_end rfl rfl rfl
set_option maxRecDepth 100000 in
theorem pt_X9_add_3 {l1 l2 : Int32} {I : Nat → Nat → Int32} {L : Nat → Nat → Int64} (h1 : (xe_cmp .lt l2 0) = false) (h2 : (xe_cmp .ge (I 1 1) (940 : Int32)) = false) (h3 : xe_ib (I 1 1) 940 = true) {v9 : Option Value} {hp9 : xe_H} (r9 : ∃ n, xr_X9_add n (3, [(0, .ref 1), (1, .int l1), (2, .int (l2 + (Int32.ofInt (-8))))], [], ((xu (xu I 2 (((I 1 1)).toInt.toNat) ((((l1).toUInt32 >>> ((l2).toUInt32 &&& Int32.toUInt32 31)).toInt32) &&& (255 : Int32))) 1 1 ((I 1 1) + (1 : Int32))), L)) v9 hp9) : ∃ n, xr_X9_add n (3, [(0, .ref 1), (1, .int l1), (2, .int l2)], [], (I, L)) v9 hp9 := by
  refine xe_bF 1 (A := (49, [(0, .ref 1), (1, .int l1), (2, .int l2)], [], (I, L))) (B := (7, [(0, .ref 1), (1, .int l1), (2, .int l2)], [], (I, L))) h1 rfl ?_
  refine xe_bF 3 (A := (49, [(0, .ref 1), (1, .int l1), (2, .int l2)], [], (I, L))) (B := (17, [(0, .ref 1), (1, .int l1), (2, .int l2)], [], (I, L))) h2 rfl ?_
  refine xe_ar 9 (A := (33, [(0, .ref 1), (1, .int l1), (2, .int l2)], [], ((xu I 2 (((I 1 1)).toInt.toNat) ((((l1).toUInt32 >>> ((l2).toUInt32 &&& Int32.toUInt32 31)).toInt32) &&& (255 : Int32))), L))) h3 rfl ?_
  refine xe_go 7 (s' := (3, [(0, .ref 1), (1, .int l1), (2, .int (l2 + (Int32.ofInt (-8))))], [], ((xu (xu I 2 (((I 1 1)).toInt.toNat) ((((l1).toUInt32 >>> ((l2).toUInt32 &&& Int32.toUInt32 31)).toInt32) &&& (255 : Int32))) 1 1 ((I 1 1) + (1 : Int32))), L))) rfl ?_
  exact xe_nrm [0, 1, 2] rfl r9
def xi_X12_feed : List (Nat × Nat × Instr) := [(0, 1, .aload_n 0), (1, 3, .getfield 10), (4, 3, .invokevirtual 107), (7, 3, .ifCond .ne 5), (10, 1, .iconst (-1)), (11, 1, .ireturn), (12, 1, .aload_n 0), (13, 3, .getfield 10), (16, 1, .iload_n 1), (17, 3, .invokevirtual 111), (20, 1, .aload_n 0), (21, 3, .getfield 10), (24, 1, .iload_n 2), (25, 3, .invokevirtual 111), (28, 1, .aload_n 0), (29, 3, .getfield 10), (32, 1, .iload_n 3), (33, 3, .invokevirtual 111), (36, 1, .aload_n 0), (37, 3, .getfield 10), (40, 2, .iload 4), (42, 3, .invokevirtual 111), (45, 1, .aload_n 0), (46, 3, .getfield 10), (49, 2, .iload 5), (51, 3, .invokevirtual 111), (54, 1, .aload_n 0), (55, 3, .getfield 10), (58, 3, .getfield 115), (61, 1, .ireturn)]
def xg_X12_feed : zf_ft := [(10, 10, 0, .inl (0, 0)), (115, 7, 1, .inl (0, 0))]
def xp_X12_feed : zf_ft := []
def xv_X12_feed : List (Nat × Nat × xe_F) := [(107, 1, fx_X9_hasRoom), (111, 2, fx_X9_add)]
def xt_X12_feed : List (Nat × Nat × xe_F) := []
abbrev xr_X12_feed := xe_run xGT xSC xRF 6 xg_X12_feed xp_X12_feed [] [] xv_X12_feed xt_X12_feed xi_X12_feed
def fx_X12_feed : xe_F := fun us hp v hp' => (us.map fun v => v.category).sum ≤ 6 ∧ xe_rt (some .int) v ∧ (∃ ar, us = ar ++ [.ref 0]) ∧ ∃ n, xr_X12_feed n (0, xe_ag 0 us.reverse, [], hp) v hp'
theorem mk_X12_feed {a1 : Int32} {a2 : Int32} {a3 : Int32} {a4 : Int32} {a5 : Int32} {hp hp' : xe_H} {v : Option Value} (hr : xe_rt (some .int) v) (h : ∃ n, xr_X12_feed n (0, [(0, .ref 0), (1, .int a1), (2, .int a2), (3, .int a3), (4, .int a4), (5, .int a5)], [], hp) v hp') : fx_X12_feed [.int a5, .int a4, .int a3, .int a2, .int a1, .ref 0] hp v hp' := ⟨Nat.le_of_ble_eq_true rfl, hr, ⟨[.int a5, .int a4, .int a3, .int a2, .int a1], rfl⟩, h⟩
theorem hx_X12_feed : ∀ us hp v hp', fx_X12_feed us hp v hp' → (us.map fun v => v.category).sum ≤ 6 ∧ xe_rt (some .int) v ∧ ∃ n, xr_X12_feed n (0, xe_ag 0 us.reverse, [], hp) v hp' := fun us hp v hp' h => ⟨h.1, h.2.1, h.2.2.2⟩
theorem fr_X12_feed : ∀ us hp v hp', fx_X12_feed us hp v hp' → ∃ ar, us = ar ++ [.ref 0] := fun us hp v hp' h => h.2.2.1
set_option maxRecDepth 100000 in
set_option maxHeartbeats 4000000 in
theorem kx_X12_feed (l : Launch) (D : va_G) (k : Nat → ClassId) (B0 : Nat) (ad : Nat → Nat) (al sw : Nat) : xe_Con l yX12_feed (zw yX12_feed cX12_feed 6 (some .int)) ({ frames := 1, cells := 0, slots := 0, locals := 22 }) D k ad (zEx B0 ad al sw) xGT xSC xRF fx_X12_feed := by
  have hEx := zEx_ok B0 ad al sw
  refine xe_mk (cc := cX12_feed) (nL := 6) (ret := (some .int)) (fg := xg_X12_feed) (fp := xp_X12_feed) (sg := []) (lc := []) (cv := xv_X12_feed) (cs := xt_X12_feed) (ins := xi_X12_feed) (by decide) rfl hEx (by decide +kernel) hx_X12_feed ?_
  intro p e s m args below meth c Q Sg w0 A θ S hK hE hAB hA hth
  refine ⟨?_, ?_, ?_, ?_, ?_, ?_⟩
  · exact zf_ac ((fun H locs ws a q0 fs v rest pc ls hP he hv hdg kk => va_get (D := D) (ci := 10) (C := RX12) (T := TX12) (N := 18) (own := RX12) S.1 S.2.1 S.2.2.2.2 (zg_in inW_X12) S.2.2.2.1 hK hP q0 he rfl 0 (by decide) (S.2.2.2.2 (.fieldLink RX12 10 "RungMoney" "tape" "LRungMoney$Tape;") (List.mem_cons_of_mem _ zw_399)) (fun _ h9 => h9) hv hdg kk)) (zf_ac ((fun H locs ws a q0 fs v rest pc ls hP he hv hdg kk => va_get (D := D) (ci := 7) (C := RX9) (T := TX9) (N := 2) (own := RX12) S.1 S.2.1 S.2.2.2.2 (zg_in inW_X9) S.2.2.2.1 hK hP q0 he rfl 1 (by decide) (S.2.2.2.2 (.fieldLink RX12 115 "RungMoney$Tape" "size" "I") (List.mem_cons_of_mem _ zw_136)) (fun _ h9 => h9) hv hdg kk)) zf_an)
  · exact zf_an
  · exact xe_n2
  · exact xe_n3
  · exact xe_a4 (xe_crV S hEx hE hAB hA hK hth (kx_X9_hasRoom l D k B0 ad al sw) (cwV 0 S.2.2.2.2 (zg_V zw_459 zw_460 zw_461 zw_96 zw_462) rfl rfl rfl (by decide +kernel) ⟨(Nat.le_of_ble_eq_true rfl), (Nat.le_of_ble_eq_true rfl)⟩) ⟨(Nat.le_of_ble_eq_true rfl), (Nat.le_of_ble_eq_true rfl)⟩ 7 rfl rfl 1 (by decide +kernel) fr_X9_hasRoom) (xe_a4 (xe_crV S hEx hE hAB hA hK hth (kx_X9_add l D k B0 ad al sw) (cwV 1 S.2.2.2.2 (zg_V zw_463 zw_464 zw_465 zw_96 zw_466) rfl rfl rfl (by decide +kernel) ⟨(Nat.le_of_ble_eq_true rfl), (Nat.le_of_ble_eq_true rfl)⟩) ⟨(Nat.le_of_ble_eq_true rfl), (Nat.le_of_ble_eq_true rfl)⟩ 7 rfl rfl 1 (by decide +kernel) fr_X9_add) xe_n4)
  · exact xe_n4
set_option maxRecDepth 100000 in
theorem pt_X12_feed_0 {a1 a2 a3 a4 a5 : Int32} {I I1 I2 I3 I4 I5 I6 : Nat → Nat → Int32} {L L1 L2 L3 L4 L5 L6 : Nat → Nat → Int64} (c1 : fx_X9_hasRoom [.ref 1] (I, L) (some (.int 1)) (I1, L1)) (c2 : fx_X9_add [.int a1, .ref 1] (I1, L1) none (I2, L2)) (c3 : fx_X9_add [.int a2, .ref 1] (I2, L2) none (I3, L3)) (c4 : fx_X9_add [.int a3, .ref 1] (I3, L3) none (I4, L4)) (c5 : fx_X9_add [.int a4, .ref 1] (I4, L4) none (I5, L5)) (c6 : fx_X9_add [.int a5, .ref 1] (I5, L5) none (I6, L6)) : ∃ n, xr_X12_feed n (0, [(0, .ref 0), (1, .int a1), (2, .int a2), (3, .int a3), (4, .int a4), (5, .int a5)], [], (I, L)) (some (.int (I6 1 1))) (I6, L6) := by
  refine xe_go 1 (s' := (4, [(0, .ref 0), (1, .int a1), (2, .int a2), (3, .int a3), (4, .int a4), (5, .int a5)], [.ref 1], (I, L))) rfl ?_
  refine xe_vir (n := 1) (f := fx_X9_hasRoom) rfl (Nat.le_of_ble_eq_true rfl) (List.mem_of_getElem? (i := 0) rfl) (Nat.le_of_ble_eq_true rfl) c1 ?_
  refine xe_go 3 (s' := (17, [(0, .ref 0), (1, .int a1), (2, .int a2), (3, .int a3), (4, .int a4), (5, .int a5)], [.int a1, .ref 1], (I1, L1))) rfl ?_
  refine xe_vir (n := 2) (f := fx_X9_add) rfl (Nat.le_of_ble_eq_true rfl) (List.mem_of_getElem? (i := 1) rfl) (Nat.le_of_ble_eq_true rfl) c2 ?_
  refine xe_go 2 (s' := (25, [(0, .ref 0), (1, .int a1), (2, .int a2), (3, .int a3), (4, .int a4), (5, .int a5)], [.int a2, .ref 1], (I2, L2))) rfl ?_
  refine xe_vir (n := 2) (f := fx_X9_add) rfl (Nat.le_of_ble_eq_true rfl) (List.mem_of_getElem? (i := 1) rfl) (Nat.le_of_ble_eq_true rfl) c3 ?_
  refine xe_go 2 (s' := (33, [(0, .ref 0), (1, .int a1), (2, .int a2), (3, .int a3), (4, .int a4), (5, .int a5)], [.int a3, .ref 1], (I3, L3))) rfl ?_
  refine xe_vir (n := 2) (f := fx_X9_add) rfl (Nat.le_of_ble_eq_true rfl) (List.mem_of_getElem? (i := 1) rfl) (Nat.le_of_ble_eq_true rfl) c4 ?_
  refine xe_go 2 (s' := (42, [(0, .ref 0), (1, .int a1), (2, .int a2), (3, .int a3), (4, .int a4), (5, .int a5)], [.int a4, .ref 1], (I4, L4))) rfl ?_
  refine xe_vir (n := 2) (f := fx_X9_add) rfl (Nat.le_of_ble_eq_true rfl) (List.mem_of_getElem? (i := 1) rfl) (Nat.le_of_ble_eq_true rfl) c5 ?_
  refine xe_go 2 (s' := (51, [(0, .ref 0), (1, .int a1), (2, .int a2), (3, .int a3), (4, .int a4), (5, .int a5)], [.int a5, .ref 1], (I5, L5))) rfl ?_
  refine xe_vir (n := 2) (f := fx_X9_add) rfl (Nat.le_of_ble_eq_true rfl) (List.mem_of_getElem? (i := 1) rfl) (Nat.le_of_ble_eq_true rfl) c6 ?_
  refine xe_go 2 (s' := (61, [(0, .ref 0), (1, .int a1), (2, .int a2), (3, .int a3), (4, .int a4), (5, .int a5)], [.int (I6 1 1)], (I6, L6))) rfl ?_
  exact xe_end rfl rfl rfl
set_option maxRecDepth 100000 in
theorem pt_X12_feed_1 {a1 a2 a3 a4 a5 : Int32} {I I1 : Nat → Nat → Int32} {L L1 : Nat → Nat → Int64} (c1 : fx_X9_hasRoom [.ref 1] (I, L) (some (.int 0)) (I1, L1)) : ∃ n, xr_X12_feed n (0, [(0, .ref 0), (1, .int a1), (2, .int a2), (3, .int a3), (4, .int a4), (5, .int a5)], [], (I, L)) (some (.int (Int32.ofInt (-1)))) (I1, L1) := by
  refine xe_go 1 (s' := (4, [(0, .ref 0), (1, .int a1), (2, .int a2), (3, .int a3), (4, .int a4), (5, .int a5)], [.ref 1], (I, L))) rfl ?_
  refine xe_vir (n := 1) (f := fx_X9_hasRoom) rfl (Nat.le_of_ble_eq_true rfl) (List.mem_of_getElem? (i := 0) rfl) (Nat.le_of_ble_eq_true rfl) c1 ?_
  refine xe_go 1 (s' := (11, [(0, .ref 0), (1, .int a1), (2, .int a2), (3, .int a3), (4, .int a4), (5, .int a5)], [.int (Int32.ofInt (-1))], (I1, L1))) rfl ?_
  exact xe_end rfl rfl rfl
def xi_X13_four : List (Nat × Nat × Instr) := [(0, 2, .bipush 24), (2, 1, .istore_n 2), (3, 1, .iload_n 2), (4, 3, .ifCond .lt 32), (7, 1, .aload_n 0), (8, 3, .getfield 14), (11, 1, .aload_n 0), (12, 3, .getfield 7), (15, 1, .iload_n 1), (16, 1, .iload_n 2), (17, 1, .ishr), (18, 1, .i2b), (19, 1, .bastore), (20, 1, .aload_n 0), (21, 1, .dup), (22, 3, .getfield 7), (25, 1, .iconst 1), (26, 1, .iadd), (27, 3, .putfield 7), (30, 3, .iinc 2 (-8)), (33, 3, .goto (-30)), (36, 1, .return_)]
def xg_X13_four : zf_ft := [(14, 11, 1, .inl (0, 0)), (7, 11, 2, .inl (0, 0))]
def xp_X13_four : zf_ft := [(7, 11, 2, .inl ((-2147483648), 2147483647))]
def xv_X13_four : List (Nat × Nat × xe_F) := []
def xt_X13_four : List (Nat × Nat × xe_F) := []
abbrev xr_X13_four := xe_run xGT xSC xRF 3 xg_X13_four xp_X13_four [] [] xv_X13_four xt_X13_four xi_X13_four
def fx_X13_four : xe_F := fun us hp v hp' => (us.map fun v => v.category).sum ≤ 3 ∧ xe_rt none v ∧ (∃ ar, us = ar ++ [.ref 18]) ∧ ∃ n, xr_X13_four n (0, xe_ag 0 us.reverse, [], hp) v hp'
theorem mk_X13_four {a1 : Int32} {hp hp' : xe_H} {v : Option Value} (hr : xe_rt none v) (h : ∃ n, xr_X13_four n (0, [(0, .ref 18), (1, .int a1)], [], hp) v hp') : fx_X13_four [.int a1, .ref 18] hp v hp' := ⟨Nat.le_of_ble_eq_true rfl, hr, ⟨[.int a1], rfl⟩, h⟩
theorem hx_X13_four : ∀ us hp v hp', fx_X13_four us hp v hp' → (us.map fun v => v.category).sum ≤ 3 ∧ xe_rt none v ∧ ∃ n, xr_X13_four n (0, xe_ag 0 us.reverse, [], hp) v hp' := fun us hp v hp' h => ⟨h.1, h.2.1, h.2.2.2⟩
theorem fr_X13_four : ∀ us hp v hp', fx_X13_four us hp v hp' → ∃ ar, us = ar ++ [.ref 18] := fun us hp v hp' h => h.2.2.1
set_option maxRecDepth 100000 in
set_option maxHeartbeats 4000000 in
theorem kx_X13_four (l : Launch) (D : va_G) (k : Nat → ClassId) (B0 : Nat) (ad : Nat → Nat) (al sw : Nat) : xe_Con l yX13_four (zw yX13_four cX13_four 3 none) ({ frames := 0, cells := 0, slots := 0, locals := 0 }) D k ad (zEx B0 ad al sw) xGT xSC xRF fx_X13_four := by
  have hEx := zEx_ok B0 ad al sw
  refine xe_mk (cc := cX13_four) (nL := 3) (ret := none) (fg := xg_X13_four) (fp := xp_X13_four) (sg := []) (lc := []) (cv := xv_X13_four) (cs := xt_X13_four) (ins := xi_X13_four) (by decide) rfl hEx (by decide +kernel) hx_X13_four ?_
  intro p e s m args below meth c Q Sg w0 A θ S hK hE hAB hA hth
  refine ⟨?_, ?_, ?_, ?_, ?_, ?_⟩
  · exact zf_ac ((fun H locs ws a q0 fs v rest pc ls hP he hv hdg kk => va_get (D := D) (ci := 11) (C := RX13) (T := TX13) (N := 47) (own := RX13) S.1 S.2.1 S.2.2.2.2 (zg_in inW_X13) S.2.2.2.1 hK hP q0 he rfl 1 (by decide) (S.2.2.2.2 (.fieldLink RX13 14 "RungMoneyModel" "tape" "[B") (List.mem_cons_of_mem _ zw_1349)) (fun _ h9 => h9) hv hdg kk)) (zf_ac ((fun H locs ws a q0 fs v rest pc ls hP he hv hdg kk => va_get (D := D) (ci := 11) (C := RX13) (T := TX13) (N := 47) (own := RX13) S.1 S.2.1 S.2.2.2.2 (zg_in inW_X13) S.2.2.2.1 hK hP q0 he rfl 2 (by decide) (S.2.2.2.2 (.fieldLink RX13 7 "RungMoneyModel" "length" "I") (List.mem_cons_of_mem _ zw_1350)) (fun _ h9 => h9) hv hdg kk)) zf_an)
  · exact zf_ac ((fun H locs ws a q0 fs v rest pc ls hP hD hS he hl hv hdg kk => by obtain ⟨x, rfl, h1, h2⟩ := hv; exact va_put (D := D) (ci := 11) (v := .int x) (ty := .int) (C := RX13) (T := TX13) (N := 47) (own := RX13) S.1 S.2.1 S.2.2.2.2 (zg_in inW_X13) tyX13 tyX13_ok nmX13 S.2.2.2.1 hK hP hD hS q0 he rfl 2 (by decide) (S.2.2.2.2 (.fieldLink RX13 7 "RungMoneyModel" "length" "I") (List.mem_cons_of_mem _ zw_1350)) (fun _ h9 => h9) rfl (by decide +kernel) rfl rfl hl hdg kk)) zf_an
  · exact xe_n2
  · exact xe_n3
  · exact xe_n4
  · exact xe_n4
set_option maxRecDepth 100000 in
theorem pt_X13_four_0 {a1 : Int32} {I : Nat → Nat → Int32} {L : Nat → Nat → Int64} {v9 : Option Value} {hp9 : xe_H} (r9 : ∃ n, xr_X13_four n (3, [(0, .ref 18), (1, .int a1), (2, .int (24 : Int32))], [], (I, L)) v9 hp9) : ∃ n, xr_X13_four n (0, [(0, .ref 18), (1, .int a1)], [], (I, L)) v9 hp9 := by
  refine xe_go 1 (s' := (3, [(0, .ref 18), (1, .int a1), (2, .int (24 : Int32))], [], (I, L))) rfl ?_
  exact xe_nrm [0, 1, 2] rfl r9
set_option maxRecDepth 100000 in
theorem pt_X13_four_1 {l1 l2 : Int32} {I : Nat → Nat → Int32} {L : Nat → Nat → Int64} (h1 : (xe_cmp .lt l2 0) = true) : ∃ n, xr_X13_four n (3, [(0, .ref 18), (1, .int l1), (2, .int l2)], [], (I, L)) none (I, L) := by
  refine xe_bT 1 (A := (36, [(0, .ref 18), (1, .int l1), (2, .int l2)], [], (I, L))) (B := (7, [(0, .ref 18), (1, .int l1), (2, .int l2)], [], (I, L))) h1 rfl ?_
  exact xe_end rfl rfl rfl
set_option maxRecDepth 100000 in
theorem pt_X13_four_2 {l1 l2 : Int32} {I : Nat → Nat → Int32} {L : Nat → Nat → Int64} (h1 : (xe_cmp .lt l2 0) = false) (h2 : (xe_ib (I 18 2) 940 && xe_by ((l1 >>> (l2 &&& 31))).toInt8.toInt32) = true) {v9 : Option Value} {hp9 : xe_H} (r9 : ∃ n, xr_X13_four n (3, [(0, .ref 18), (1, .int l1), (2, .int (l2 + (Int32.ofInt (-8))))], [], ((xu (xu I 19 (((I 18 2)).toInt.toNat) ((l1 >>> (l2 &&& 31))).toInt8.toInt32) 18 2 ((I 18 2) + (1 : Int32))), L)) v9 hp9) : ∃ n, xr_X13_four n (3, [(0, .ref 18), (1, .int l1), (2, .int l2)], [], (I, L)) v9 hp9 := by
  refine xe_bF 1 (A := (36, [(0, .ref 18), (1, .int l1), (2, .int l2)], [], (I, L))) (B := (7, [(0, .ref 18), (1, .int l1), (2, .int l2)], [], (I, L))) h1 rfl ?_
  refine xe_ar 8 (A := (20, [(0, .ref 18), (1, .int l1), (2, .int l2)], [], ((xu I 19 (((I 18 2)).toInt.toNat) ((l1 >>> (l2 &&& 31))).toInt8.toInt32), L))) h2 rfl ?_
  refine xe_go 7 (s' := (3, [(0, .ref 18), (1, .int l1), (2, .int (l2 + (Int32.ofInt (-8))))], [], ((xu (xu I 19 (((I 18 2)).toInt.toNat) ((l1 >>> (l2 &&& 31))).toInt8.toInt32) 18 2 ((I 18 2) + (1 : Int32))), L))) rfl ?_
  exact xe_nrm [0, 1, 2] rfl r9
def xi_X13_feed : List (Nat × Nat × Instr) := [(0, 1, .aload_n 0), (1, 1, .iconst 0), (2, 3, .putfield 1), (5, 1, .aload_n 0), (6, 3, .getfield 7), (9, 2, .bipush 20), (11, 1, .iadd), (12, 3, .sipush 940), (15, 3, .if_icmp .le 5), (18, 1, .iconst (-1)), (19, 1, .ireturn), (20, 1, .aload_n 0), (21, 1, .iload_n 1), (22, 3, .invokevirtual 10), (25, 1, .aload_n 0), (26, 1, .iload_n 2), (27, 3, .invokevirtual 10), (30, 1, .aload_n 0), (31, 1, .iload_n 3), (32, 3, .invokevirtual 10), (35, 1, .aload_n 0), (36, 2, .iload 4), (38, 3, .invokevirtual 10), (41, 1, .aload_n 0), (42, 2, .iload 5), (44, 3, .invokevirtual 10), (47, 1, .aload_n 0), (48, 3, .getfield 7), (51, 1, .ireturn)]
def xg_X13_feed : zf_ft := [(7, 11, 2, .inl (0, 0))]
def xp_X13_feed : zf_ft := [(1, 11, 0, .inl ((-2147483648), 2147483647))]
def xv_X13_feed : List (Nat × Nat × xe_F) := [(10, 2, fx_X13_four)]
def xt_X13_feed : List (Nat × Nat × xe_F) := []
abbrev xr_X13_feed := xe_run xGT xSC xRF 6 xg_X13_feed xp_X13_feed [] [] xv_X13_feed xt_X13_feed xi_X13_feed
def fx_X13_feed : xe_F := fun us hp v hp' => (us.map fun v => v.category).sum ≤ 6 ∧ xe_rt (some .int) v ∧ (∃ ar, us = ar ++ [.ref 18]) ∧ ∃ n, xr_X13_feed n (0, xe_ag 0 us.reverse, [], hp) v hp'
theorem mk_X13_feed {a1 : Int32} {a2 : Int32} {a3 : Int32} {a4 : Int32} {a5 : Int32} {hp hp' : xe_H} {v : Option Value} (hr : xe_rt (some .int) v) (h : ∃ n, xr_X13_feed n (0, [(0, .ref 18), (1, .int a1), (2, .int a2), (3, .int a3), (4, .int a4), (5, .int a5)], [], hp) v hp') : fx_X13_feed [.int a5, .int a4, .int a3, .int a2, .int a1, .ref 18] hp v hp' := ⟨Nat.le_of_ble_eq_true rfl, hr, ⟨[.int a5, .int a4, .int a3, .int a2, .int a1], rfl⟩, h⟩
theorem hx_X13_feed : ∀ us hp v hp', fx_X13_feed us hp v hp' → (us.map fun v => v.category).sum ≤ 6 ∧ xe_rt (some .int) v ∧ ∃ n, xr_X13_feed n (0, xe_ag 0 us.reverse, [], hp) v hp' := fun us hp v hp' h => ⟨h.1, h.2.1, h.2.2.2⟩
theorem fr_X13_feed : ∀ us hp v hp', fx_X13_feed us hp v hp' → ∃ ar, us = ar ++ [.ref 18] := fun us hp v hp' h => h.2.2.1
set_option maxRecDepth 100000 in
set_option maxHeartbeats 4000000 in
theorem kx_X13_feed (l : Launch) (D : va_G) (k : Nat → ClassId) (B0 : Nat) (ad : Nat → Nat) (al sw : Nat) : xe_Con l yX13_feed (zw yX13_feed cX13_feed 6 (some .int)) ({ frames := 1, cells := 0, slots := 0, locals := 22 }) D k ad (zEx B0 ad al sw) xGT xSC xRF fx_X13_feed := by
  have hEx := zEx_ok B0 ad al sw
  refine xe_mk (cc := cX13_feed) (nL := 6) (ret := (some .int)) (fg := xg_X13_feed) (fp := xp_X13_feed) (sg := []) (lc := []) (cv := xv_X13_feed) (cs := xt_X13_feed) (ins := xi_X13_feed) (by decide) rfl hEx (by decide +kernel) hx_X13_feed ?_
  intro p e s m args below meth c Q Sg w0 A θ S hK hE hAB hA hth
  refine ⟨?_, ?_, ?_, ?_, ?_, ?_⟩
  · exact zf_ac ((fun H locs ws a q0 fs v rest pc ls hP he hv hdg kk => va_get (D := D) (ci := 11) (C := RX13) (T := TX13) (N := 47) (own := RX13) S.1 S.2.1 S.2.2.2.2 (zg_in inW_X13) S.2.2.2.1 hK hP q0 he rfl 2 (by decide) (S.2.2.2.2 (.fieldLink RX13 7 "RungMoneyModel" "length" "I") (List.mem_cons_of_mem _ zw_1350)) (fun _ h9 => h9) hv hdg kk)) zf_an
  · exact zf_ac ((fun H locs ws a q0 fs v rest pc ls hP hD hS he hl hv hdg kk => by obtain ⟨x, rfl, h1, h2⟩ := hv; exact va_put (D := D) (ci := 11) (v := .int x) (ty := .int) (C := RX13) (T := TX13) (N := 47) (own := RX13) S.1 S.2.1 S.2.2.2.2 (zg_in inW_X13) tyX13 tyX13_ok nmX13 S.2.2.2.1 hK hP hD hS q0 he rfl 0 (by decide) (S.2.2.2.2 (.fieldLink RX13 1 "RungMoneyModel" "thrown" "I") (List.mem_cons_of_mem _ zw_1348)) (fun _ h9 => h9) rfl (by decide +kernel) rfl rfl hl hdg kk)) zf_an
  · exact xe_n2
  · exact xe_n3
  · exact xe_a4 (xe_crV S hEx hE hAB hA hK hth (kx_X13_four l D k B0 ad al sw) (cwV 1 S.2.2.2.2 (zg_V zw_1311 zw_1313 zw_25 zw_109 zw_1315) rfl rfl rfl (by decide +kernel) ⟨(Nat.le_of_ble_eq_true rfl), (Nat.le_of_ble_eq_true rfl)⟩) ⟨(Nat.le_of_ble_eq_true rfl), (Nat.le_of_ble_eq_true rfl)⟩ 11 rfl rfl 18 (by decide +kernel) fr_X13_four) xe_n4
  · exact xe_n4
set_option maxRecDepth 100000 in
theorem pt_X13_feed_0 {a1 a2 a3 a4 a5 : Int32} {I I1 I2 I3 I4 I5 : Nat → Nat → Int32} {L L1 L2 L3 L4 L5 : Nat → Nat → Int64} (h1 : (xe_cmp .le ((I 18 2) + (20 : Int32)) (940 : Int32)) = true) (c1 : fx_X13_four [.int a1, .ref 18] ((xu I 18 0 (0 : Int32)), L) none (I1, L1)) (c2 : fx_X13_four [.int a2, .ref 18] (I1, L1) none (I2, L2)) (c3 : fx_X13_four [.int a3, .ref 18] (I2, L2) none (I3, L3)) (c4 : fx_X13_four [.int a4, .ref 18] (I3, L3) none (I4, L4)) (c5 : fx_X13_four [.int a5, .ref 18] (I4, L4) none (I5, L5)) : ∃ n, xr_X13_feed n (0, [(0, .ref 18), (1, .int a1), (2, .int a2), (3, .int a3), (4, .int a4), (5, .int a5)], [], (I, L)) (some (.int (I5 18 2))) (I5, L5) := by
  refine xe_bT 8 (A := (20, [(0, .ref 18), (1, .int a1), (2, .int a2), (3, .int a3), (4, .int a4), (5, .int a5)], [], ((xu I 18 0 (0 : Int32)), L))) (B := (18, [(0, .ref 18), (1, .int a1), (2, .int a2), (3, .int a3), (4, .int a4), (5, .int a5)], [], ((xu I 18 0 (0 : Int32)), L))) h1 rfl ?_
  refine xe_go 1 (s' := (22, [(0, .ref 18), (1, .int a1), (2, .int a2), (3, .int a3), (4, .int a4), (5, .int a5)], [.int a1, .ref 18], ((xu I 18 0 (0 : Int32)), L))) rfl ?_
  refine xe_vir (n := 2) (f := fx_X13_four) rfl (Nat.le_of_ble_eq_true rfl) (List.mem_of_getElem? (i := 0) rfl) (Nat.le_of_ble_eq_true rfl) c1 ?_
  refine xe_go 1 (s' := (27, [(0, .ref 18), (1, .int a1), (2, .int a2), (3, .int a3), (4, .int a4), (5, .int a5)], [.int a2, .ref 18], (I1, L1))) rfl ?_
  refine xe_vir (n := 2) (f := fx_X13_four) rfl (Nat.le_of_ble_eq_true rfl) (List.mem_of_getElem? (i := 0) rfl) (Nat.le_of_ble_eq_true rfl) c2 ?_
  refine xe_go 1 (s' := (32, [(0, .ref 18), (1, .int a1), (2, .int a2), (3, .int a3), (4, .int a4), (5, .int a5)], [.int a3, .ref 18], (I2, L2))) rfl ?_
  refine xe_vir (n := 2) (f := fx_X13_four) rfl (Nat.le_of_ble_eq_true rfl) (List.mem_of_getElem? (i := 0) rfl) (Nat.le_of_ble_eq_true rfl) c3 ?_
  refine xe_go 1 (s' := (38, [(0, .ref 18), (1, .int a1), (2, .int a2), (3, .int a3), (4, .int a4), (5, .int a5)], [.int a4, .ref 18], (I3, L3))) rfl ?_
  refine xe_vir (n := 2) (f := fx_X13_four) rfl (Nat.le_of_ble_eq_true rfl) (List.mem_of_getElem? (i := 0) rfl) (Nat.le_of_ble_eq_true rfl) c4 ?_
  refine xe_go 1 (s' := (44, [(0, .ref 18), (1, .int a1), (2, .int a2), (3, .int a3), (4, .int a4), (5, .int a5)], [.int a5, .ref 18], (I4, L4))) rfl ?_
  refine xe_vir (n := 2) (f := fx_X13_four) rfl (Nat.le_of_ble_eq_true rfl) (List.mem_of_getElem? (i := 0) rfl) (Nat.le_of_ble_eq_true rfl) c5 ?_
  refine xe_go 1 (s' := (51, [(0, .ref 18), (1, .int a1), (2, .int a2), (3, .int a3), (4, .int a4), (5, .int a5)], [.int (I5 18 2)], (I5, L5))) rfl ?_
  exact xe_end rfl rfl rfl
set_option maxRecDepth 100000 in
theorem pt_X13_feed_1 {a1 a2 a3 a4 a5 : Int32} {I : Nat → Nat → Int32} {L : Nat → Nat → Int64} (h1 : (xe_cmp .le ((I 18 2) + (20 : Int32)) (940 : Int32)) = false) : ∃ n, xr_X13_feed n (0, [(0, .ref 18), (1, .int a1), (2, .int a2), (3, .int a3), (4, .int a4), (5, .int a5)], [], (I, L)) (some (.int (Int32.ofInt (-1)))) ((xu I 18 0 (0 : Int32)), L) := by
  refine xe_bF 8 (A := (20, [(0, .ref 18), (1, .int a1), (2, .int a2), (3, .int a3), (4, .int a4), (5, .int a5)], [], ((xu I 18 0 (0 : Int32)), L))) (B := (18, [(0, .ref 18), (1, .int a1), (2, .int a2), (3, .int a3), (4, .int a4), (5, .int a5)], [], ((xu I 18 0 (0 : Int32)), L))) h1 rfl ?_
  refine xe_go 0 (s' := (19, [(0, .ref 18), (1, .int a1), (2, .int a2), (3, .int a3), (4, .int a4), (5, .int a5)], [.int (Int32.ofInt (-1))], ((xu I 18 0 (0 : Int32)), L))) rfl ?_
  exact xe_end rfl rfl rfl

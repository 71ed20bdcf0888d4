/-! ===== the class reads lines ===== -/
def xi_X7_key : List (Nat × Nat × Instr) := [(0, 1, .aload_n 0), (1, 3, .getfield 47), (4, 3, .invokestatic 65), (7, 1, .areturn)]
def xg_X7_key : zf_ft := [(47, 5, 5, .inl (0, 0))]
def xp_X7_key : zf_ft := []
def xv_X7_key : List (Nat × Nat × xe_F) := []
def xt_X7_key : List (Nat × Nat × xe_F) := [(65, 1, fx_X2_find)]
abbrev xr_X7_key := xe_run xGT xSC xRF 1 xg_X7_key xp_X7_key [] [] xv_X7_key xt_X7_key xi_X7_key
def fx_X7_key : xe_F := fun us hp v hp' => (us.map fun v => v.category).sum ≤ 1 ∧ xe_rt (some (.object "RungMoney$Key")) v ∧ (∃ ar, us = ar ++ [.ref 3]) ∧ ∃ n, xr_X7_key n (0, xe_ag 0 us.reverse, [], hp) v hp'
theorem mk_X7_key  {hp hp' : xe_H} {v : Option Value} (hr : xe_rt (some (.object "RungMoney$Key")) v) (h : ∃ n, xr_X7_key n (0, [(0, .ref 3)], [], hp) v hp') : fx_X7_key [.ref 3] hp v hp' := ⟨Nat.le_of_ble_eq_true rfl, hr, ⟨[], rfl⟩, h⟩
theorem hx_X7_key : ∀ us hp v hp', fx_X7_key us hp v hp' → (us.map fun v => v.category).sum ≤ 1 ∧ xe_rt (some (.object "RungMoney$Key")) v ∧ ∃ n, xr_X7_key n (0, xe_ag 0 us.reverse, [], hp) v hp' := fun us hp v hp' h => ⟨h.1, h.2.1, h.2.2.2⟩
theorem fr_X7_key : ∀ us hp v hp', fx_X7_key us hp v hp' → ∃ ar, us = ar ++ [.ref 3] := fun us hp v hp' h => h.2.2.1
set_option maxRecDepth 100000 in
set_option maxHeartbeats 4000000 in
theorem kx_X7_key (l : Launch) (D : va_G) (k : Nat → ClassId) (B0 : Nat) (ad : Nat → Nat) (al sw : Nat) : xe_Con l yX7_key (zw yX7_key cX7_key 1 (some (.object "RungMoney$Key"))) ({ frames := 1, cells := 0, slots := 0, locals := 22 }) D k ad (zEx B0 ad al sw) xGT xSC xRF fx_X7_key := by
  have hEx := zEx_ok B0 ad al sw
  refine xe_mk (cc := cX7_key) (nL := 1) (ret := (some (.object "RungMoney$Key"))) (fg := xg_X7_key) (fp := xp_X7_key) (sg := []) (lc := []) (cv := xv_X7_key) (cs := xt_X7_key) (ins := xi_X7_key) (by decide) rfl hEx (by decide +kernel) hx_X7_key ?_
  intro p e s m args below meth c Q Sg w0 A θ S hK hE hAB hA hth
  refine ⟨?_, ?_, ?_, ?_, ?_, ?_⟩
  · exact zf_ac ((fun H locs ws a q0 fs v rest pc ls hP he hv hdg kk => va_get (D := D) (ci := 5) (C := RX7) (T := TX7) (N := 11) (own := RX7) S.1 S.2.1 S.2.2.2.2 (zg_in inW_X7) S.2.2.2.1 hK hP q0 he rfl 5 (by decide) (S.2.2.2.2 (.fieldLink RX7 47 "RungMoney$Reader" "word" "J") (List.mem_cons_of_mem _ zw_158)) (fun _ h9 => h9) hv hdg kk)) zf_an
  · exact zf_an
  · exact xe_n2
  · exact xe_n3
  · exact xe_n4
  · exact xe_a4 (xe_crS S hEx hE hAB hA hK hth (kx_X2_find l D k B0 ad al sw) (va_cwS 1 S.2.2.2.2 (zg_S zw_513 zw_514 zw_104 zw_515) rfl rfl rfl (by decide +kernel) ⟨(Nat.le_of_ble_eq_true rfl), (Nat.le_of_ble_eq_true rfl)⟩) ⟨(Nat.le_of_ble_eq_true rfl), (Nat.le_of_ble_eq_true rfl)⟩) xe_n4
set_option maxRecDepth 100000 in
theorem pt_X7_key_0 {I I1 : Nat → Nat → Int32} {L L1 : Nat → Nat → Int64} {k1 : Nat} (c1 : fx_X2_find [.long (L 3 5)] (I, L) (some (.ref k1)) (I1, L1)) : ∃ n, xr_X7_key n (0, [(0, .ref 3)], [], (I, L)) (some (.ref k1)) (I1, L1) := by
  refine xe_go 1 (s' := (4, [(0, .ref 3)], [.long (L 3 5)], (I, L))) rfl ?_
  refine xe_sta (n := 1) (f := fx_X2_find) rfl (Nat.le_of_ble_eq_true rfl) (List.mem_of_getElem? (i := 0) rfl) (Nat.le_of_ble_eq_true rfl) c1 ?_
  exact xe_end rfl rfl rfl
def xi_X10_manNamed : List (Nat × Nat × Instr) := [(0, 1, .iconst 0), (1, 1, .istore_n 3), (2, 1, .iload_n 3), (3, 1, .aload_n 0), (4, 3, .getfield 37), (7, 3, .if_icmp .ge 22), (10, 1, .aload_n 0), (11, 3, .getfield 9), (14, 1, .iload_n 3), (15, 1, .laload), (16, 1, .lload_n 1), (17, 1, .lcmp), (18, 3, .ifCond .ne 5), (21, 1, .iload_n 3), (22, 1, .ireturn), (23, 3, .iinc 3 1), (26, 3, .goto (-24)), (29, 1, .iconst (-1)), (30, 1, .ireturn)]
def xg_X10_manNamed : zf_ft := [(37, 8, 0, .inl (0, 0)), (9, 8, 1, .inl (0, 0))]
def xp_X10_manNamed : zf_ft := []
def xv_X10_manNamed : List (Nat × Nat × xe_F) := []
def xt_X10_manNamed : List (Nat × Nat × xe_F) := []
abbrev xr_X10_manNamed := xe_run xGT xSC xRF 4 xg_X10_manNamed xp_X10_manNamed [] [] xv_X10_manNamed xt_X10_manNamed xi_X10_manNamed
def fx_X10_manNamed : xe_F := fun us hp v hp' => (us.map fun v => v.category).sum ≤ 4 ∧ xe_rt (some .int) v ∧ (∃ ar, us = ar ++ [.ref 64]) ∧ ∃ n, xr_X10_manNamed n (0, xe_ag 0 us.reverse, [], hp) v hp'
theorem mk_X10_manNamed {w1 : Int64} {hp hp' : xe_H} {v : Option Value} (hr : xe_rt (some .int) v) (h : ∃ n, xr_X10_manNamed n (0, [(0, .ref 64), (1, .long w1)], [], hp) v hp') : fx_X10_manNamed [.long w1, .ref 64] hp v hp' := ⟨Nat.le_of_ble_eq_true rfl, hr, ⟨[.long w1], rfl⟩, h⟩
theorem hx_X10_manNamed : ∀ us hp v hp', fx_X10_manNamed us hp v hp' → (us.map fun v => v.category).sum ≤ 4 ∧ xe_rt (some .int) v ∧ ∃ n, xr_X10_manNamed n (0, xe_ag 0 us.reverse, [], hp) v hp' := fun us hp v hp' h => ⟨h.1, h.2.1, h.2.2.2⟩
theorem fr_X10_manNamed : ∀ us hp v hp', fx_X10_manNamed us hp v hp' → ∃ ar, us = ar ++ [.ref 64] := fun us hp v hp' h => h.2.2.1
set_option maxRecDepth 100000 in
set_option maxHeartbeats 4000000 in
theorem kx_X10_manNamed (l : Launch) (D : va_G) (k : Nat → ClassId) (B0 : Nat) (ad : Nat → Nat) (al sw : Nat) : xe_Con l yX10_manNamed (zw yX10_manNamed cX10_manNamed 4 (some .int)) ({ frames := 0, cells := 0, slots := 0, locals := 0 }) D k ad (zEx B0 ad al sw) xGT xSC xRF fx_X10_manNamed := by
  have hEx := zEx_ok B0 ad al sw
  refine xe_mk (cc := cX10_manNamed) (nL := 4) (ret := (some .int)) (fg := xg_X10_manNamed) (fp := xp_X10_manNamed) (sg := []) (lc := []) (cv := xv_X10_manNamed) (cs := xt_X10_manNamed) (ins := xi_X10_manNamed) (by decide) rfl hEx (by decide +kernel) hx_X10_manNamed ?_
  intro p e s m args below meth c Q Sg w0 A θ S hK hE hAB hA hth
  refine ⟨?_, ?_, ?_, ?_, ?_, ?_⟩
  · exact zf_ac ((fun H locs ws a q0 fs v rest pc ls hP he hv hdg kk => va_get (D := D) (ci := 8) (C := RX10) (T := TX10) (N := 9) (own := RX10) S.1 S.2.1 S.2.2.2.2 (zg_in inW_X10) S.2.2.2.1 hK hP q0 he rfl 0 (by decide) (S.2.2.2.2 (.fieldLink RX10 37 "RungMoney$Town" "men" "I") (List.mem_cons_of_mem _ zw_263)) (fun _ h9 => h9) hv hdg kk)) (zf_ac ((fun H locs ws a q0 fs v rest pc ls hP he hv hdg kk => va_get (D := D) (ci := 8) (C := RX10) (T := TX10) (N := 9) (own := RX10) S.1 S.2.1 S.2.2.2.2 (zg_in inW_X10) S.2.2.2.1 hK hP q0 he rfl 1 (by decide) (S.2.2.2.2 (.fieldLink RX10 9 "RungMoney$Town" "names" "[J") (List.mem_cons_of_mem _ zw_266)) (fun _ h9 => h9) hv hdg kk)) zf_an)
  · exact zf_an
  · exact xe_n2
  · exact xe_n3
  · exact xe_n4
  · exact xe_n4
set_option maxRecDepth 100000 in
theorem pt_X10_manNamed_0 {w1 : Int64} {I : Nat → Nat → Int32} {L : Nat → Nat → Int64} {v9 : Option Value} {hp9 : xe_H} (r9 : ∃ n, xr_X10_manNamed n (2, [(0, .ref 64), (1, .long w1), (3, .int (0 : Int32))], [], (I, L)) v9 hp9) : ∃ n, xr_X10_manNamed n (0, [(0, .ref 64), (1, .long w1)], [], (I, L)) v9 hp9 := by
  refine xe_go 1 (s' := (2, [(0, .ref 64), (1, .long w1), (3, .int (0 : Int32))], [], (I, L))) rfl ?_
  exact xe_nrm [0, 1, 3] rfl r9
set_option maxRecDepth 100000 in
theorem pt_X10_manNamed_1 {wl1 : Int64} {l3 : Int32} {I : Nat → Nat → Int32} {L : Nat → Nat → Int64} (h1 : (xe_cmp .ge l3 (I 64 0)) = true) : ∃ n, xr_X10_manNamed n (2, [(0, .ref 64), (1, .long wl1), (3, .int l3)], [], (I, L)) (some (.int (Int32.ofInt (-1)))) (I, L) := by
  refine xe_bT 3 (A := (29, [(0, .ref 64), (1, .long wl1), (3, .int l3)], [], (I, L))) (B := (10, [(0, .ref 64), (1, .long wl1), (3, .int l3)], [], (I, L))) h1 rfl ?_
  refine xe_go 0 (s' := (30, [(0, .ref 64), (1, .long wl1), (3, .int l3)], [.int (Int32.ofInt (-1))], (I, L))) rfl ?_
  exact xe_end rfl rfl rfl
set_option maxRecDepth 100000 in
theorem pt_X10_manNamed_2 {wl1 : Int64} {l3 : Int32} {I : Nat → Nat → Int32} {L : Nat → Nat → Int64} (h1 : (xe_cmp .ge l3 (I 64 0)) = false) (h2 : xe_ib l3 6 = true) (h3 : (xe_cmp .ne (lg_cmp (L 65 ((l3).toInt.toNat)) wl1) 0) = true) {v9 : Option Value} {hp9 : xe_H} (r9 : ∃ n, xr_X10_manNamed n (2, [(0, .ref 64), (1, .long wl1), (3, .int (l3 + (1 : Int32)))], [], (I, L)) v9 hp9) : ∃ n, xr_X10_manNamed n (2, [(0, .ref 64), (1, .long wl1), (3, .int l3)], [], (I, L)) v9 hp9 := by
  refine xe_bF 3 (A := (29, [(0, .ref 64), (1, .long wl1), (3, .int l3)], [], (I, L))) (B := (10, [(0, .ref 64), (1, .long wl1), (3, .int l3)], [], (I, L))) h1 rfl ?_
  refine xe_ar 3 (A := (16, [(0, .ref 64), (1, .long wl1), (3, .int l3)], [.long (L 65 ((l3).toInt.toNat))], (I, L))) h2 rfl ?_
  refine xe_bT 2 (A := (23, [(0, .ref 64), (1, .long wl1), (3, .int l3)], [], (I, L))) (B := (21, [(0, .ref 64), (1, .long wl1), (3, .int l3)], [], (I, L))) h3 rfl ?_
  refine xe_go 1 (s' := (2, [(0, .ref 64), (1, .long wl1), (3, .int (l3 + (1 : Int32)))], [], (I, L))) rfl ?_
  exact xe_nrm [0, 1, 3] rfl r9
set_option maxRecDepth 100000 in
theorem pt_X10_manNamed_3 {wl1 : Int64} {l3 : Int32} {I : Nat → Nat → Int32} {L : Nat → Nat → Int64} (h1 : (xe_cmp .ge l3 (I 64 0)) = false) (h2 : xe_ib l3 6 = true) (h3 : (xe_cmp .ne (lg_cmp (L 65 ((l3).toInt.toNat)) wl1) 0) = false) : ∃ n, xr_X10_manNamed n (2, [(0, .ref 64), (1, .long wl1), (3, .int l3)], [], (I, L)) (some (.int l3)) (I, L) := by
  refine xe_bF 3 (A := (29, [(0, .ref 64), (1, .long wl1), (3, .int l3)], [], (I, L))) (B := (10, [(0, .ref 64), (1, .long wl1), (3, .int l3)], [], (I, L))) h1 rfl ?_
  refine xe_ar 3 (A := (16, [(0, .ref 64), (1, .long wl1), (3, .int l3)], [.long (L 65 ((l3).toInt.toNat))], (I, L))) h2 rfl ?_
  refine xe_bF 2 (A := (23, [(0, .ref 64), (1, .long wl1), (3, .int l3)], [], (I, L))) (B := (21, [(0, .ref 64), (1, .long wl1), (3, .int l3)], [], (I, L))) h3 rfl ?_
  refine xe_go 0 (s' := (22, [(0, .ref 64), (1, .long wl1), (3, .int l3)], [.int l3], (I, L))) rfl ?_
  exact xe_end rfl rfl rfl
def xi_X10_addMan : List (Nat × Nat × Instr) := [(0, 1, .aload_n 0), (1, 3, .getfield 37), (4, 2, .bipush 6), (6, 3, .if_icmp .ge 23), (9, 1, .aload_n 0), (10, 3, .getfield 9), (13, 1, .aload_n 0), (14, 3, .getfield 37), (17, 1, .lload_n 1), (18, 1, .lastore), (19, 1, .aload_n 0), (20, 1, .dup), (21, 3, .getfield 37), (24, 1, .iconst 1), (25, 1, .iadd), (26, 3, .putfield 37), (29, 1, .return_)]
def xg_X10_addMan : zf_ft := [(37, 8, 0, .inl (0, 0)), (9, 8, 1, .inl (0, 0))]
def xp_X10_addMan : zf_ft := [(37, 8, 0, .inl ((-2147483648), 2147483647))]
def xv_X10_addMan : List (Nat × Nat × xe_F) := []
def xt_X10_addMan : List (Nat × Nat × xe_F) := []
abbrev xr_X10_addMan := xe_run xGT xSC xRF 3 xg_X10_addMan xp_X10_addMan [] [] xv_X10_addMan xt_X10_addMan xi_X10_addMan
def fx_X10_addMan : xe_F := fun us hp v hp' => (us.map fun v => v.category).sum ≤ 3 ∧ xe_rt none v ∧ (∃ ar, us = ar ++ [.ref 64]) ∧ ∃ n, xr_X10_addMan n (0, xe_ag 0 us.reverse, [], hp) v hp'
theorem mk_X10_addMan {w1 : Int64} {hp hp' : xe_H} {v : Option Value} (hr : xe_rt none v) (h : ∃ n, xr_X10_addMan n (0, [(0, .ref 64), (1, .long w1)], [], hp) v hp') : fx_X10_addMan [.long w1, .ref 64] hp v hp' := ⟨Nat.le_of_ble_eq_true rfl, hr, ⟨[.long w1], rfl⟩, h⟩
theorem hx_X10_addMan : ∀ us hp v hp', fx_X10_addMan us hp v hp' → (us.map fun v => v.category).sum ≤ 3 ∧ xe_rt none v ∧ ∃ n, xr_X10_addMan n (0, xe_ag 0 us.reverse, [], hp) v hp' := fun us hp v hp' h => ⟨h.1, h.2.1, h.2.2.2⟩
theorem fr_X10_addMan : ∀ us hp v hp', fx_X10_addMan us hp v hp' → ∃ ar, us = ar ++ [.ref 64] := fun us hp v hp' h => h.2.2.1
set_option maxRecDepth 100000 in
set_option maxHeartbeats 4000000 in
theorem kx_X10_addMan (l : Launch) (D : va_G) (k : Nat → ClassId) (B0 : Nat) (ad : Nat → Nat) (al sw : Nat) : xe_Con l yX10_addMan (zw yX10_addMan cX10_addMan 3 none) ({ frames := 0, cells := 0, slots := 0, locals := 0 }) D k ad (zEx B0 ad al sw) xGT xSC xRF fx_X10_addMan := by
  have hEx := zEx_ok B0 ad al sw
  refine xe_mk (cc := cX10_addMan) (nL := 3) (ret := none) (fg := xg_X10_addMan) (fp := xp_X10_addMan) (sg := []) (lc := []) (cv := xv_X10_addMan) (cs := xt_X10_addMan) (ins := xi_X10_addMan) (by decide) rfl hEx (by decide +kernel) hx_X10_addMan ?_
  intro p e s m args below meth c Q Sg w0 A θ S hK hE hAB hA hth
  refine ⟨?_, ?_, ?_, ?_, ?_, ?_⟩
  · exact zf_ac ((fun H locs ws a q0 fs v rest pc ls hP he hv hdg kk => va_get (D := D) (ci := 8) (C := RX10) (T := TX10) (N := 9) (own := RX10) S.1 S.2.1 S.2.2.2.2 (zg_in inW_X10) S.2.2.2.1 hK hP q0 he rfl 0 (by decide) (S.2.2.2.2 (.fieldLink RX10 37 "RungMoney$Town" "men" "I") (List.mem_cons_of_mem _ zw_263)) (fun _ h9 => h9) hv hdg kk)) (zf_ac ((fun H locs ws a q0 fs v rest pc ls hP he hv hdg kk => va_get (D := D) (ci := 8) (C := RX10) (T := TX10) (N := 9) (own := RX10) S.1 S.2.1 S.2.2.2.2 (zg_in inW_X10) S.2.2.2.1 hK hP q0 he rfl 1 (by decide) (S.2.2.2.2 (.fieldLink RX10 9 "RungMoney$Town" "names" "[J") (List.mem_cons_of_mem _ zw_266)) (fun _ h9 => h9) hv hdg kk)) zf_an)
  · exact zf_ac ((fun H locs ws a q0 fs v rest pc ls hP hD hS he hl hv hdg kk => by obtain ⟨x, rfl, h1, h2⟩ := hv; exact va_put (D := D) (ci := 8) (v := .int x) (ty := .int) (C := RX10) (T := TX10) (N := 9) (own := RX10) S.1 S.2.1 S.2.2.2.2 (zg_in inW_X10) tyX10 tyX10_ok nmX10 S.2.2.2.1 hK hP hD hS q0 he rfl 0 (by decide) (S.2.2.2.2 (.fieldLink RX10 37 "RungMoney$Town" "men" "I") (List.mem_cons_of_mem _ zw_263)) (fun _ h9 => h9) rfl (by decide +kernel) rfl rfl hl hdg kk)) zf_an
  · exact xe_n2
  · exact xe_n3
  · exact xe_n4
  · exact xe_n4
set_option maxRecDepth 100000 in
theorem pt_X10_addMan_0 {w1 : Int64} {I : Nat → Nat → Int32} {L : Nat → Nat → Int64} (h1 : (xe_cmp .ge (I 64 0) (6 : Int32)) = true) : ∃ n, xr_X10_addMan n (0, [(0, .ref 64), (1, .long w1)], [], (I, L)) none (I, L) := by
  refine xe_bT 3 (A := (29, [(0, .ref 64), (1, .long w1)], [], (I, L))) (B := (9, [(0, .ref 64), (1, .long w1)], [], (I, L))) h1 rfl ?_
  exact xe_end rfl rfl rfl
set_option maxRecDepth 100000 in
theorem pt_X10_addMan_1 {w1 : Int64} {I : Nat → Nat → Int32} {L : Nat → Nat → Int64} (h1 : (xe_cmp .ge (I 64 0) (6 : Int32)) = false) (h2 : xe_ib (I 64 0) 6 = true) : ∃ n, xr_X10_addMan n (0, [(0, .ref 64), (1, .long w1)], [], (I, L)) none ((xu I 64 0 ((I 64 0) + (1 : Int32))), (xul L 65 (((I 64 0)).toInt.toNat) w1)) := by
  refine xe_bF 3 (A := (29, [(0, .ref 64), (1, .long w1)], [], (I, L))) (B := (9, [(0, .ref 64), (1, .long w1)], [], (I, L))) h1 rfl ?_
  refine xe_ar 5 (A := (19, [(0, .ref 64), (1, .long w1)], [], (I, (xul L 65 (((I 64 0)).toInt.toNat) w1)))) h2 rfl ?_
  refine xe_go 5 (s' := (29, [(0, .ref 64), (1, .long w1)], [], ((xu I 64 0 ((I 64 0) + (1 : Int32))), (xul L 65 (((I 64 0)).toInt.toNat) w1)))) rfl ?_
  exact xe_end rfl rfl rfl
def xi_X7_seesMan : List (Nat × Nat × Instr) := [(0, 1, .aload_n 0), (1, 3, .getfield 57), (4, 1, .iconst 1), (5, 3, .if_icmp .ne 16), (8, 1, .aload_n 0), (9, 3, .getfield 47), (12, 3, .invokestatic 65), (15, 3, .getstatic 80), (18, 3, .if_acmp .eq 9), (21, 1, .aload_n 0), (22, 1, .iconst 1), (23, 3, .invokevirtual 74), (26, 1, .ireturn), (27, 1, .aload_n 0), (28, 1, .aload_n 1), (29, 1, .aload_n 0), (30, 3, .getfield 47), (33, 3, .invokevirtual 84), (36, 3, .putfield 77), (39, 1, .aload_n 0), (40, 3, .getfield 77), (43, 1, .iconst (-1)), (44, 3, .if_icmp .ne 11), (47, 1, .aload_n 0), (48, 1, .iconst 3), (49, 3, .invokevirtual 74), (52, 3, .ifCond .eq 7), (55, 1, .iconst 1), (56, 3, .goto 4), (59, 1, .iconst 0), (60, 1, .ireturn)]
def xg_X7_seesMan : zf_ft := [(57, 5, 4, .inl (0, 0)), (47, 5, 5, .inl (0, 0)), (77, 5, 8, .inl (0, 0))]
def xp_X7_seesMan : zf_ft := [(77, 5, 8, .inl ((-2147483648), 2147483647))]
def xv_X7_seesMan : List (Nat × Nat × xe_F) := [(74, 2, fx_X7_fail), (84, 2, fx_X10_manNamed)]
def xt_X7_seesMan : List (Nat × Nat × xe_F) := [(65, 1, fx_X2_find)]
abbrev xr_X7_seesMan := xe_run xGT xSC xRF 2 xg_X7_seesMan xp_X7_seesMan [(80, 200)] [] xv_X7_seesMan xt_X7_seesMan xi_X7_seesMan
def fx_X7_seesMan : xe_F := fun us hp v hp' => (us.map fun v => v.category).sum ≤ 2 ∧ xe_rt (some .boolean) v ∧ (∃ ar, us = ar ++ [.ref 3]) ∧ ∃ n, xr_X7_seesMan n (0, xe_ag 0 us.reverse, [], hp) v hp'
theorem mk_X7_seesMan  {hp hp' : xe_H} {v : Option Value} (hr : xe_rt (some .boolean) v) (h : ∃ n, xr_X7_seesMan n (0, [(0, .ref 3), (1, .ref 64)], [], hp) v hp') : fx_X7_seesMan [.ref 64, .ref 3] hp v hp' := ⟨Nat.le_of_ble_eq_true rfl, hr, ⟨[.ref 64], rfl⟩, h⟩
theorem hx_X7_seesMan : ∀ us hp v hp', fx_X7_seesMan us hp v hp' → (us.map fun v => v.category).sum ≤ 2 ∧ xe_rt (some .boolean) v ∧ ∃ n, xr_X7_seesMan n (0, xe_ag 0 us.reverse, [], hp) v hp' := fun us hp v hp' h => ⟨h.1, h.2.1, h.2.2.2⟩
theorem fr_X7_seesMan : ∀ us hp v hp', fx_X7_seesMan us hp v hp' → ∃ ar, us = ar ++ [.ref 3] := fun us hp v hp' h => h.2.2.1
set_option maxRecDepth 100000 in
set_option maxHeartbeats 4000000 in
theorem kx_X7_seesMan (l : Launch) (D : va_G) (k : Nat → ClassId) (B0 : Nat) (ad : Nat → Nat) (al sw : Nat) : xe_Con l yX7_seesMan (zw yX7_seesMan cX7_seesMan 2 (some .boolean)) ({ frames := 1, cells := 0, slots := 0, locals := 23 }) D k ad (zEx B0 ad al sw) xGT xSC xRF fx_X7_seesMan := by
  have hEx := zEx_ok B0 ad al sw
  refine xe_mk (cc := cX7_seesMan) (nL := 2) (ret := (some .boolean)) (fg := xg_X7_seesMan) (fp := xp_X7_seesMan) (sg := [(80, 200)]) (lc := []) (cv := xv_X7_seesMan) (cs := xt_X7_seesMan) (ins := xi_X7_seesMan) (by decide) rfl hEx (by decide +kernel) hx_X7_seesMan ?_
  intro p e s m args below meth c Q Sg w0 A θ S hK hE hAB hA hth
  refine ⟨?_, ?_, ?_, ?_, ?_, ?_⟩
  · exact zf_ac ((fun H locs ws a q0 fs v rest pc ls hP he hv hdg kk => va_get (D := D) (ci := 5) (C := RX7) (T := TX7) (N := 11) (own := RX7) S.1 S.2.1 S.2.2.2.2 (zg_in inW_X7) S.2.2.2.1 hK hP q0 he rfl 4 (by decide) (S.2.2.2.2 (.fieldLink RX7 57 "RungMoney$Reader" "kind" "I") (List.mem_cons_of_mem _ zw_156)) (fun _ h9 => h9) hv hdg kk)) (zf_ac ((fun H locs ws a q0 fs v rest pc ls hP he hv hdg kk => va_get (D := D) (ci := 5) (C := RX7) (T := TX7) (N := 11) (own := RX7) S.1 S.2.1 S.2.2.2.2 (zg_in inW_X7) S.2.2.2.1 hK hP q0 he rfl 5 (by decide) (S.2.2.2.2 (.fieldLink RX7 47 "RungMoney$Reader" "word" "J") (List.mem_cons_of_mem _ zw_158)) (fun _ h9 => h9) hv hdg kk)) (zf_ac ((fun H locs ws a q0 fs v rest pc ls hP he hv hdg kk => va_get (D := D) (ci := 5) (C := RX7) (T := TX7) (N := 11) (own := RX7) S.1 S.2.1 S.2.2.2.2 (zg_in inW_X7) S.2.2.2.1 hK hP q0 he rfl 8 (by decide) (S.2.2.2.2 (.fieldLink RX7 77 "RungMoney$Reader" "taken" "I") (List.mem_cons_of_mem _ zw_165)) (fun _ h9 => h9) hv hdg kk)) zf_an))
  · exact zf_ac ((fun H locs ws a q0 fs v rest pc ls hP hD hS he hl hv hdg kk => by obtain ⟨x, rfl, h1, h2⟩ := hv; exact va_put (D := D) (ci := 5) (v := .int x) (ty := .int) (C := RX7) (T := TX7) (N := 11) (own := RX7) S.1 S.2.1 S.2.2.2.2 (zg_in inW_X7) tyX7 tyX7_ok nmX7 S.2.2.2.1 hK hP hD hS q0 he rfl 8 (by decide) (S.2.2.2.2 (.fieldLink RX7 77 "RungMoney$Reader" "taken" "I") (List.mem_cons_of_mem _ zw_165)) (fun _ h9 => h9) rfl (by decide +kernel) rfl rfl hl hdg kk)) zf_an
  · exact xe_a2 ((fun H locs rest pc ls hS hdg kk => va_gets (C := RX2) (n := "OTHER") (d := zkD) (v := .ref (θ 200)) S.1 S.2.1 (by rw [(hth.2 0 (by decide)).1]; exact (hE.2.2.2.1.1 0 (by decide)).1.narrow hAB) hS S.2.2.2.1 (S.2.2.2.2 (.fieldLink RX7 80 "RungMoney$Key" "OTHER" "LRungMoney$Key;") (List.mem_cons_of_mem _ zw_557)) (fun _ h9 => h9) hdg (kk (by show Sg (θ 200) = some 128; rw [(hth.2 0 (by decide)).1]; exact (hth.2 0 (by decide)).2)))) xe_n2
  · exact xe_n3
  · exact xe_a4 (xe_crV S hEx hE hAB hA hK hth (kx_X7_fail l D k B0 ad al sw) (cwV 1 S.2.2.2.2 (zg_V zw_558 zw_526 zw_527 zw_97 zw_528) rfl rfl rfl (by decide +kernel) ⟨(Nat.le_of_ble_eq_true rfl), (Nat.le_of_ble_eq_true rfl)⟩) ⟨(Nat.le_of_ble_eq_true rfl), (Nat.le_of_ble_eq_true rfl)⟩ 5 rfl rfl 3 (by decide +kernel) fr_X7_fail) (xe_a4 (xe_crV S hEx hE hAB hA hK hth (kx_X10_manNamed l D k B0 ad al sw) (cwV 1 S.2.2.2.2 (zg_V zw_559 zw_536 zw_537 zw_99 zw_538) rfl rfl rfl (by decide +kernel) ⟨(Nat.le_of_ble_eq_true rfl), (Nat.le_of_ble_eq_true rfl)⟩) ⟨(Nat.le_of_ble_eq_true rfl), (Nat.le_of_ble_eq_true rfl)⟩ 8 rfl rfl 64 (by decide +kernel) fr_X10_manNamed) xe_n4)
  · exact xe_a4 (xe_crS S hEx hE hAB hA hK hth (kx_X2_find l D k B0 ad al sw) (va_cwS 1 S.2.2.2.2 (zg_S zw_513 zw_514 zw_104 zw_515) rfl rfl rfl (by decide +kernel) ⟨(Nat.le_of_ble_eq_true rfl), (Nat.le_of_ble_eq_true rfl)⟩) ⟨(Nat.le_of_ble_eq_true rfl), (Nat.le_of_ble_eq_true rfl)⟩) xe_n4
set_option maxRecDepth 100000 in
theorem pt_X7_seesMan_0 {I I1 : Nat → Nat → Int32} {L L1 : Nat → Nat → Int64} (h1 : (xe_cmp .ne (I 3 4) (1 : Int32)) = true) (c1 : fx_X7_fail [.int (1 : Int32), .ref 3] (I, L) (some (.int 0)) (I1, L1)) : ∃ n, xr_X7_seesMan n (0, [(0, .ref 3), (1, .ref 64)], [], (I, L)) (some (.int 0)) (I1, L1) := by
  refine xe_bT 3 (A := (21, [(0, .ref 3), (1, .ref 64)], [], (I, L))) (B := (8, [(0, .ref 3), (1, .ref 64)], [], (I, L))) h1 rfl ?_
  refine xe_go 1 (s' := (23, [(0, .ref 3), (1, .ref 64)], [.int (1 : Int32), .ref 3], (I, L))) rfl ?_
  refine xe_vir (n := 2) (f := fx_X7_fail) rfl (Nat.le_of_ble_eq_true rfl) (List.mem_of_getElem? (i := 0) rfl) (Nat.le_of_ble_eq_true rfl) c1 ?_
  exact xe_end rfl rfl rfl
set_option maxRecDepth 100000 in
theorem pt_X7_seesMan_1 {I I1 I2 : Nat → Nat → Int32} {L L1 L2 : Nat → Nat → Int64} {k1 : Nat} {r2 : Int32} (h1 : (xe_cmp .ne (I 3 4) (1 : Int32)) = false) (c1 : fx_X2_find [.long (L 3 5)] (I, L) (some (.ref k1)) (I1, L1)) (h2 : (Nat.beq k1 200) = true) (c2 : fx_X10_manNamed [.long (L1 3 5), .ref 64] (I1, L1) (some (.int r2)) (I2, L2)) (h3 : (xe_cmp .ne r2 (Int32.ofInt (-1))) = true) : ∃ n, xr_X7_seesMan n (0, [(0, .ref 3), (1, .ref 64)], [], (I, L)) (some (.int (1 : Int32))) ((xu I2 3 8 r2), L2) := by
  refine xe_bF 3 (A := (21, [(0, .ref 3), (1, .ref 64)], [], (I, L))) (B := (8, [(0, .ref 3), (1, .ref 64)], [], (I, L))) h1 rfl ?_
  refine xe_go 1 (s' := (12, [(0, .ref 3), (1, .ref 64)], [.long (L 3 5)], (I, L))) rfl ?_
  refine xe_sta (n := 1) (f := fx_X2_find) rfl (Nat.le_of_ble_eq_true rfl) (List.mem_of_getElem? (i := 0) rfl) (Nat.le_of_ble_eq_true rfl) c1 ?_
  refine xe_bT 1 (A := (27, [(0, .ref 3), (1, .ref 64)], [], (I1, L1))) (B := (21, [(0, .ref 3), (1, .ref 64)], [], (I1, L1))) h2 rfl ?_
  refine xe_go 3 (s' := (33, [(0, .ref 3), (1, .ref 64)], [.long (L1 3 5), .ref 64, .ref 3], (I1, L1))) rfl ?_
  refine xe_vir (n := 2) (f := fx_X10_manNamed) rfl (Nat.le_of_ble_eq_true rfl) (List.mem_of_getElem? (i := 1) rfl) (Nat.le_of_ble_eq_true rfl) c2 ?_
  refine xe_bT 4 (A := (55, [(0, .ref 3), (1, .ref 64)], [], ((xu I2 3 8 r2), L2))) (B := (47, [(0, .ref 3), (1, .ref 64)], [], ((xu I2 3 8 r2), L2))) h3 rfl ?_
  refine xe_go 1 (s' := (60, [(0, .ref 3), (1, .ref 64)], [.int (1 : Int32)], ((xu I2 3 8 r2), L2))) rfl ?_
  exact xe_end rfl rfl rfl
set_option maxRecDepth 100000 in
theorem pt_X7_seesMan_2 {I I1 I2 I3 : Nat → Nat → Int32} {L L1 L2 L3 : Nat → Nat → Int64} {k1 : Nat} {r2 : Int32} (h1 : (xe_cmp .ne (I 3 4) (1 : Int32)) = false) (c1 : fx_X2_find [.long (L 3 5)] (I, L) (some (.ref k1)) (I1, L1)) (h2 : (Nat.beq k1 200) = true) (c2 : fx_X10_manNamed [.long (L1 3 5), .ref 64] (I1, L1) (some (.int r2)) (I2, L2)) (h3 : (xe_cmp .ne r2 (Int32.ofInt (-1))) = false) (c3 : fx_X7_fail [.int (3 : Int32), .ref 3] ((xu I2 3 8 r2), L2) (some (.int 0)) (I3, L3)) : ∃ n, xr_X7_seesMan n (0, [(0, .ref 3), (1, .ref 64)], [], (I, L)) (some (.int (0 : Int32))) (I3, L3) := by
  refine xe_bF 3 (A := (21, [(0, .ref 3), (1, .ref 64)], [], (I, L))) (B := (8, [(0, .ref 3), (1, .ref 64)], [], (I, L))) h1 rfl ?_
  refine xe_go 1 (s' := (12, [(0, .ref 3), (1, .ref 64)], [.long (L 3 5)], (I, L))) rfl ?_
  refine xe_sta (n := 1) (f := fx_X2_find) rfl (Nat.le_of_ble_eq_true rfl) (List.mem_of_getElem? (i := 0) rfl) (Nat.le_of_ble_eq_true rfl) c1 ?_
  refine xe_bT 1 (A := (27, [(0, .ref 3), (1, .ref 64)], [], (I1, L1))) (B := (21, [(0, .ref 3), (1, .ref 64)], [], (I1, L1))) h2 rfl ?_
  refine xe_go 3 (s' := (33, [(0, .ref 3), (1, .ref 64)], [.long (L1 3 5), .ref 64, .ref 3], (I1, L1))) rfl ?_
  refine xe_vir (n := 2) (f := fx_X10_manNamed) rfl (Nat.le_of_ble_eq_true rfl) (List.mem_of_getElem? (i := 1) rfl) (Nat.le_of_ble_eq_true rfl) c2 ?_
  refine xe_bF 4 (A := (55, [(0, .ref 3), (1, .ref 64)], [], ((xu I2 3 8 r2), L2))) (B := (47, [(0, .ref 3), (1, .ref 64)], [], ((xu I2 3 8 r2), L2))) h3 rfl ?_
  refine xe_go 1 (s' := (49, [(0, .ref 3), (1, .ref 64)], [.int (3 : Int32), .ref 3], ((xu I2 3 8 r2), L2))) rfl ?_
  refine xe_vir (n := 2) (f := fx_X7_fail) rfl (Nat.le_of_ble_eq_true rfl) (List.mem_of_getElem? (i := 0) rfl) (Nat.le_of_ble_eq_true rfl) c3 ?_
  refine xe_go 1 (s' := (60, [(0, .ref 3), (1, .ref 64)], [.int (0 : Int32)], (I3, L3))) rfl ?_
  exact xe_end rfl rfl rfl
set_option maxRecDepth 100000 in
theorem pt_X7_seesMan_3 {I I1 I2 : Nat → Nat → Int32} {L L1 L2 : Nat → Nat → Int64} {k1 : Nat} (h1 : (xe_cmp .ne (I 3 4) (1 : Int32)) = false) (c1 : fx_X2_find [.long (L 3 5)] (I, L) (some (.ref k1)) (I1, L1)) (h2 : (Nat.beq k1 200) = false) (c2 : fx_X7_fail [.int (1 : Int32), .ref 3] (I1, L1) (some (.int 0)) (I2, L2)) : ∃ n, xr_X7_seesMan n (0, [(0, .ref 3), (1, .ref 64)], [], (I, L)) (some (.int 0)) (I2, L2) := by
  refine xe_bF 3 (A := (21, [(0, .ref 3), (1, .ref 64)], [], (I, L))) (B := (8, [(0, .ref 3), (1, .ref 64)], [], (I, L))) h1 rfl ?_
  refine xe_go 1 (s' := (12, [(0, .ref 3), (1, .ref 64)], [.long (L 3 5)], (I, L))) rfl ?_
  refine xe_sta (n := 1) (f := fx_X2_find) rfl (Nat.le_of_ble_eq_true rfl) (List.mem_of_getElem? (i := 0) rfl) (Nat.le_of_ble_eq_true rfl) c1 ?_
  refine xe_bF 1 (A := (27, [(0, .ref 3), (1, .ref 64)], [], (I1, L1))) (B := (21, [(0, .ref 3), (1, .ref 64)], [], (I1, L1))) h2 rfl ?_
  refine xe_go 1 (s' := (23, [(0, .ref 3), (1, .ref 64)], [.int (1 : Int32), .ref 3], (I1, L1))) rfl ?_
  refine xe_vir (n := 2) (f := fx_X7_fail) rfl (Nat.le_of_ble_eq_true rfl) (List.mem_of_getElem? (i := 0) rfl) (Nat.le_of_ble_eq_true rfl) c2 ?_
  exact xe_end rfl rfl rfl
def xi_X7_takeMan : List (Nat × Nat × Instr) := [(0, 1, .aload_n 0), (1, 1, .aload_n 1), (2, 3, .invokevirtual 90), (5, 3, .ifCond .ne 5), (8, 1, .iconst 0), (9, 1, .ireturn), (10, 1, .aload_n 0), (11, 3, .invokevirtual 28), (14, 1, .iconst 1), (15, 1, .ireturn)]
def xg_X7_takeMan : zf_ft := []
def xp_X7_takeMan : zf_ft := []
def xv_X7_takeMan : List (Nat × Nat × xe_F) := [(90, 2, fx_X7_seesMan), (28, 1, fx_X7_step)]
def xt_X7_takeMan : List (Nat × Nat × xe_F) := []
abbrev xr_X7_takeMan := xe_run xGT xSC xRF 2 xg_X7_takeMan xp_X7_takeMan [] [] xv_X7_takeMan xt_X7_takeMan xi_X7_takeMan
def fx_X7_takeMan : xe_F := fun us hp v hp' => (us.map fun v => v.category).sum ≤ 2 ∧ xe_rt (some .boolean) v ∧ (∃ ar, us = ar ++ [.ref 3]) ∧ ∃ n, xr_X7_takeMan n (0, xe_ag 0 us.reverse, [], hp) v hp'
theorem mk_X7_takeMan  {hp hp' : xe_H} {v : Option Value} (hr : xe_rt (some .boolean) v) (h : ∃ n, xr_X7_takeMan n (0, [(0, .ref 3), (1, .ref 64)], [], hp) v hp') : fx_X7_takeMan [.ref 64, .ref 3] hp v hp' := ⟨Nat.le_of_ble_eq_true rfl, hr, ⟨[.ref 64], rfl⟩, h⟩
theorem hx_X7_takeMan : ∀ us hp v hp', fx_X7_takeMan us hp v hp' → (us.map fun v => v.category).sum ≤ 2 ∧ xe_rt (some .boolean) v ∧ ∃ n, xr_X7_takeMan n (0, xe_ag 0 us.reverse, [], hp) v hp' := fun us hp v hp' h => ⟨h.1, h.2.1, h.2.2.2⟩
theorem fr_X7_takeMan : ∀ us hp v hp', fx_X7_takeMan us hp v hp' → ∃ ar, us = ar ++ [.ref 3] := fun us hp v hp' h => h.2.2.1
set_option maxRecDepth 100000 in
set_option maxHeartbeats 4000000 in
theorem kx_X7_takeMan (l : Launch) (D : va_G) (k : Nat → ClassId) (B0 : Nat) (ad : Nat → Nat) (al sw : Nat) : xe_Con l yX7_takeMan (zw yX7_takeMan cX7_takeMan 2 (some .boolean)) ({ frames := 2, cells := 0, slots := 0, locals := 44 }) D k ad (zEx B0 ad al sw) xGT xSC xRF fx_X7_takeMan := by
  have hEx := zEx_ok B0 ad al sw
  refine xe_mk (cc := cX7_takeMan) (nL := 2) (ret := (some .boolean)) (fg := xg_X7_takeMan) (fp := xp_X7_takeMan) (sg := []) (lc := []) (cv := xv_X7_takeMan) (cs := xt_X7_takeMan) (ins := xi_X7_takeMan) (by decide) rfl hEx (by decide +kernel) hx_X7_takeMan ?_
  intro p e s m args below meth c Q Sg w0 A θ S hK hE hAB hA hth
  refine ⟨?_, ?_, ?_, ?_, ?_, ?_⟩
  · exact zf_an
  · exact zf_an
  · exact xe_n2
  · exact xe_n3
  · exact xe_a4 (xe_crV S hEx hE hAB hA hK hth (kx_X7_seesMan l D k B0 ad al sw) (cwV 1 S.2.2.2.2 (zg_V zw_553 zw_554 zw_555 zw_97 zw_556) rfl rfl rfl (by decide +kernel) ⟨(Nat.le_of_ble_eq_true rfl), (Nat.le_of_ble_eq_true rfl)⟩) ⟨(Nat.le_of_ble_eq_true rfl), (Nat.le_of_ble_eq_true rfl)⟩ 5 rfl rfl 3 (by decide +kernel) fr_X7_seesMan) (xe_a4 (xe_crV S hEx hE hAB hA hK hth (kx_X7_step l D k B0 ad al sw) (cwV 0 S.2.2.2.2 (zg_V zw_493 zw_494 zw_495 zw_97 zw_496) rfl rfl rfl (by decide +kernel) ⟨(Nat.le_of_ble_eq_true rfl), (Nat.le_of_ble_eq_true rfl)⟩) ⟨(Nat.le_of_ble_eq_true rfl), (Nat.le_of_ble_eq_true rfl)⟩ 5 rfl rfl 3 (by decide +kernel) fr_X7_step) xe_n4)
  · exact xe_n4
set_option maxRecDepth 100000 in
theorem pt_X7_takeMan_0 {I I1 I2 : Nat → Nat → Int32} {L L1 L2 : Nat → Nat → Int64} (c1 : fx_X7_seesMan [.ref 64, .ref 3] (I, L) (some (.int 1)) (I1, L1)) (c2 : fx_X7_step [.ref 3] (I1, L1) none (I2, L2)) : ∃ n, xr_X7_takeMan n (0, [(0, .ref 3), (1, .ref 64)], [], (I, L)) (some (.int (1 : Int32))) (I2, L2) := by
  refine xe_go 1 (s' := (2, [(0, .ref 3), (1, .ref 64)], [.ref 64, .ref 3], (I, L))) rfl ?_
  refine xe_vir (n := 2) (f := fx_X7_seesMan) rfl (Nat.le_of_ble_eq_true rfl) (List.mem_of_getElem? (i := 0) rfl) (Nat.le_of_ble_eq_true rfl) c1 ?_
  refine xe_go 1 (s' := (11, [(0, .ref 3), (1, .ref 64)], [.ref 3], (I1, L1))) rfl ?_
  refine xe_vir (n := 1) (f := fx_X7_step) rfl (Nat.le_of_ble_eq_true rfl) (List.mem_of_getElem? (i := 1) rfl) (Nat.le_of_ble_eq_true rfl) c2 ?_
  refine xe_go 0 (s' := (15, [(0, .ref 3), (1, .ref 64)], [.int (1 : Int32)], (I2, L2))) rfl ?_
  exact xe_end rfl rfl rfl
set_option maxRecDepth 100000 in
theorem pt_X7_takeMan_1 {I I1 : Nat → Nat → Int32} {L L1 : Nat → Nat → Int64} (c1 : fx_X7_seesMan [.ref 64, .ref 3] (I, L) (some (.int 0)) (I1, L1)) : ∃ n, xr_X7_takeMan n (0, [(0, .ref 3), (1, .ref 64)], [], (I, L)) (some (.int (0 : Int32))) (I1, L1) := by
  refine xe_go 1 (s' := (2, [(0, .ref 3), (1, .ref 64)], [.ref 64, .ref 3], (I, L))) rfl ?_
  refine xe_vir (n := 2) (f := fx_X7_seesMan) rfl (Nat.le_of_ble_eq_true rfl) (List.mem_of_getElem? (i := 0) rfl) (Nat.le_of_ble_eq_true rfl) c1 ?_
  refine xe_go 1 (s' := (9, [(0, .ref 3), (1, .ref 64)], [.int (0 : Int32)], (I1, L1))) rfl ?_
  exact xe_end rfl rfl rfl
def xi_X1_isPair : List (Nat × Nat × Instr) := [(0, 1, .iload_n 0), (1, 3, .ifCond .lt 23), (4, 1, .iload_n 0), (5, 2, .bipush 6), (7, 3, .if_icmp .ge 17), (10, 1, .iload_n 1), (11, 3, .ifCond .lt 13), (14, 1, .iload_n 1), (15, 2, .bipush 6), (17, 3, .if_icmp .ge 7), (20, 1, .iconst 1), (21, 3, .goto 4), (24, 1, .iconst 0), (25, 1, .ireturn)]
def xg_X1_isPair : zf_ft := []
def xp_X1_isPair : zf_ft := []
def xv_X1_isPair : List (Nat × Nat × xe_F) := []
def xt_X1_isPair : List (Nat × Nat × xe_F) := []
abbrev xr_X1_isPair := xe_run xGT xSC xRF 2 xg_X1_isPair xp_X1_isPair [] [] xv_X1_isPair xt_X1_isPair xi_X1_isPair
def fx_X1_isPair : xe_F := fun us hp v hp' => (us.map fun v => v.category).sum ≤ 2 ∧ xe_rt (some .boolean) v ∧ True ∧ ∃ n, xr_X1_isPair n (0, xe_ag 0 us.reverse, [], hp) v hp'
theorem mk_X1_isPair {a0 : Int32} {a1 : Int32} {hp hp' : xe_H} {v : Option Value} (hr : xe_rt (some .boolean) v) (h : ∃ n, xr_X1_isPair n (0, [(0, .int a0), (1, .int a1)], [], hp) v hp') : fx_X1_isPair [.int a1, .int a0] hp v hp' := ⟨Nat.le_of_ble_eq_true rfl, hr, trivial, h⟩
theorem hx_X1_isPair : ∀ us hp v hp', fx_X1_isPair us hp v hp' → (us.map fun v => v.category).sum ≤ 2 ∧ xe_rt (some .boolean) v ∧ ∃ n, xr_X1_isPair n (0, xe_ag 0 us.reverse, [], hp) v hp' := fun us hp v hp' h => ⟨h.1, h.2.1, h.2.2.2⟩
set_option maxRecDepth 100000 in
set_option maxHeartbeats 4000000 in
theorem kx_X1_isPair (l : Launch) (D : va_G) (k : Nat → ClassId) (B0 : Nat) (ad : Nat → Nat) (al sw : Nat) : xe_Con l yX1_isPair (zw yX1_isPair cX1_isPair 2 (some .boolean)) ({ frames := 0, cells := 0, slots := 0, locals := 0 }) D k ad (zEx B0 ad al sw) xGT xSC xRF fx_X1_isPair := by
  have hEx := zEx_ok B0 ad al sw
  refine xe_mk (cc := cX1_isPair) (nL := 2) (ret := (some .boolean)) (fg := xg_X1_isPair) (fp := xp_X1_isPair) (sg := []) (lc := []) (cv := xv_X1_isPair) (cs := xt_X1_isPair) (ins := xi_X1_isPair) (by decide) rfl hEx (by decide +kernel) hx_X1_isPair ?_
  intro p e s m args below meth c Q Sg w0 A θ S hK hE hAB hA hth
  refine ⟨?_, ?_, ?_, ?_, ?_, ?_⟩
  · exact zf_an
  · exact zf_an
  · exact xe_n2
  · exact xe_n3
  · exact xe_n4
  · exact xe_n4
set_option maxRecDepth 100000 in
theorem pt_X1_isPair_0 {a0 a1 : Int32} {I : Nat → Nat → Int32} {L : Nat → Nat → Int64} (h1 : (xe_cmp .lt a0 0) = true) : ∃ n, xr_X1_isPair n (0, [(0, .int a0), (1, .int a1)], [], (I, L)) (some (.int (0 : Int32))) (I, L) := by
  refine xe_bT 1 (A := (24, [(0, .int a0), (1, .int a1)], [], (I, L))) (B := (4, [(0, .int a0), (1, .int a1)], [], (I, L))) h1 rfl ?_
  refine xe_go 0 (s' := (25, [(0, .int a0), (1, .int a1)], [.int (0 : Int32)], (I, L))) rfl ?_
  exact xe_end rfl rfl rfl
set_option maxRecDepth 100000 in
theorem pt_X1_isPair_1 {a0 a1 : Int32} {I : Nat → Nat → Int32} {L : Nat → Nat → Int64} (h1 : (xe_cmp .lt a0 0) = false) (h2 : (xe_cmp .ge a0 (6 : Int32)) = true) : ∃ n, xr_X1_isPair n (0, [(0, .int a0), (1, .int a1)], [], (I, L)) (some (.int (0 : Int32))) (I, L) := by
  refine xe_bF 1 (A := (24, [(0, .int a0), (1, .int a1)], [], (I, L))) (B := (4, [(0, .int a0), (1, .int a1)], [], (I, L))) h1 rfl ?_
  refine xe_bT 2 (A := (24, [(0, .int a0), (1, .int a1)], [], (I, L))) (B := (10, [(0, .int a0), (1, .int a1)], [], (I, L))) h2 rfl ?_
  refine xe_go 0 (s' := (25, [(0, .int a0), (1, .int a1)], [.int (0 : Int32)], (I, L))) rfl ?_
  exact xe_end rfl rfl rfl
set_option maxRecDepth 100000 in
theorem pt_X1_isPair_2 {a0 a1 : Int32} {I : Nat → Nat → Int32} {L : Nat → Nat → Int64} (h1 : (xe_cmp .lt a0 0) = false) (h2 : (xe_cmp .ge a0 (6 : Int32)) = false) (h3 : (xe_cmp .lt a1 0) = true) : ∃ n, xr_X1_isPair n (0, [(0, .int a0), (1, .int a1)], [], (I, L)) (some (.int (0 : Int32))) (I, L) := by
  refine xe_bF 1 (A := (24, [(0, .int a0), (1, .int a1)], [], (I, L))) (B := (4, [(0, .int a0), (1, .int a1)], [], (I, L))) h1 rfl ?_
  refine xe_bF 2 (A := (24, [(0, .int a0), (1, .int a1)], [], (I, L))) (B := (10, [(0, .int a0), (1, .int a1)], [], (I, L))) h2 rfl ?_
  refine xe_bT 1 (A := (24, [(0, .int a0), (1, .int a1)], [], (I, L))) (B := (14, [(0, .int a0), (1, .int a1)], [], (I, L))) h3 rfl ?_
  refine xe_go 0 (s' := (25, [(0, .int a0), (1, .int a1)], [.int (0 : Int32)], (I, L))) rfl ?_
  exact xe_end rfl rfl rfl
set_option maxRecDepth 100000 in
theorem pt_X1_isPair_3 {a0 a1 : Int32} {I : Nat → Nat → Int32} {L : Nat → Nat → Int64} (h1 : (xe_cmp .lt a0 0) = false) (h2 : (xe_cmp .ge a0 (6 : Int32)) = false) (h3 : (xe_cmp .lt a1 0) = false) (h4 : (xe_cmp .ge a1 (6 : Int32)) = true) : ∃ n, xr_X1_isPair n (0, [(0, .int a0), (1, .int a1)], [], (I, L)) (some (.int (0 : Int32))) (I, L) := by
  refine xe_bF 1 (A := (24, [(0, .int a0), (1, .int a1)], [], (I, L))) (B := (4, [(0, .int a0), (1, .int a1)], [], (I, L))) h1 rfl ?_
  refine xe_bF 2 (A := (24, [(0, .int a0), (1, .int a1)], [], (I, L))) (B := (10, [(0, .int a0), (1, .int a1)], [], (I, L))) h2 rfl ?_
  refine xe_bF 1 (A := (24, [(0, .int a0), (1, .int a1)], [], (I, L))) (B := (14, [(0, .int a0), (1, .int a1)], [], (I, L))) h3 rfl ?_
  refine xe_bT 2 (A := (24, [(0, .int a0), (1, .int a1)], [], (I, L))) (B := (20, [(0, .int a0), (1, .int a1)], [], (I, L))) h4 rfl ?_
  refine xe_go 0 (s' := (25, [(0, .int a0), (1, .int a1)], [.int (0 : Int32)], (I, L))) rfl ?_
  exact xe_end rfl rfl rfl
set_option maxRecDepth 100000 in
theorem pt_X1_isPair_4 {a0 a1 : Int32} {I : Nat → Nat → Int32} {L : Nat → Nat → Int64} (h1 : (xe_cmp .lt a0 0) = false) (h2 : (xe_cmp .ge a0 (6 : Int32)) = false) (h3 : (xe_cmp .lt a1 0) = false) (h4 : (xe_cmp .ge a1 (6 : Int32)) = false) : ∃ n, xr_X1_isPair n (0, [(0, .int a0), (1, .int a1)], [], (I, L)) (some (.int (1 : Int32))) (I, L) := by
  refine xe_bF 1 (A := (24, [(0, .int a0), (1, .int a1)], [], (I, L))) (B := (4, [(0, .int a0), (1, .int a1)], [], (I, L))) h1 rfl ?_
  refine xe_bF 2 (A := (24, [(0, .int a0), (1, .int a1)], [], (I, L))) (B := (10, [(0, .int a0), (1, .int a1)], [], (I, L))) h2 rfl ?_
  refine xe_bF 1 (A := (24, [(0, .int a0), (1, .int a1)], [], (I, L))) (B := (14, [(0, .int a0), (1, .int a1)], [], (I, L))) h3 rfl ?_
  refine xe_bF 2 (A := (24, [(0, .int a0), (1, .int a1)], [], (I, L))) (B := (20, [(0, .int a0), (1, .int a1)], [], (I, L))) h4 rfl ?_
  refine xe_go 1 (s' := (25, [(0, .int a0), (1, .int a1)], [.int (1 : Int32)], (I, L))) rfl ?_
  exact xe_end rfl rfl rfl
def xi_X1_of : List (Nat × Nat × Instr) := [(0, 1, .iload_n 1), (1, 1, .iload_n 2), (2, 3, .invokestatic 30), (5, 3, .ifCond .eq 17), (8, 1, .aload_n 0), (9, 3, .getfield 9), (12, 1, .iload_n 1), (13, 2, .bipush 6), (15, 1, .imul), (16, 1, .iload_n 2), (17, 1, .iadd), (18, 1, .iaload), (19, 3, .goto 4), (22, 1, .iconst 0), (23, 1, .ireturn)]
def xg_X1_of : zf_ft := [(9, 0, 0, .inl (0, 0))]
def xp_X1_of : zf_ft := []
def xv_X1_of : List (Nat × Nat × xe_F) := []
def xt_X1_of : List (Nat × Nat × xe_F) := [(30, 2, fx_X1_isPair)]
abbrev xr_X1_of := xe_run xGT xSC xRF 3 xg_X1_of xp_X1_of [] [] xv_X1_of xt_X1_of xi_X1_of
def fx_X1_of : xe_F := fun us hp v hp' => (us.map fun v => v.category).sum ≤ 3 ∧ xe_rt (some .int) v ∧ (∃ ar, us = ar ++ [.ref 72]) ∧ ∃ n, xr_X1_of n (0, xe_ag 0 us.reverse, [], hp) v hp'
theorem mk_X1_of {a1 : Int32} {a2 : Int32} {hp hp' : xe_H} {v : Option Value} (hr : xe_rt (some .int) v) (h : ∃ n, xr_X1_of n (0, [(0, .ref 72), (1, .int a1), (2, .int a2)], [], hp) v hp') : fx_X1_of [.int a2, .int a1, .ref 72] hp v hp' := ⟨Nat.le_of_ble_eq_true rfl, hr, ⟨[.int a2, .int a1], rfl⟩, h⟩
theorem hx_X1_of : ∀ us hp v hp', fx_X1_of us hp v hp' → (us.map fun v => v.category).sum ≤ 3 ∧ xe_rt (some .int) v ∧ ∃ n, xr_X1_of n (0, xe_ag 0 us.reverse, [], hp) v hp' := fun us hp v hp' h => ⟨h.1, h.2.1, h.2.2.2⟩
theorem fr_X1_of : ∀ us hp v hp', fx_X1_of us hp v hp' → ∃ ar, us = ar ++ [.ref 72] := fun us hp v hp' h => h.2.2.1
set_option maxRecDepth 100000 in
set_option maxHeartbeats 4000000 in
theorem kx_X1_of (l : Launch) (D : va_G) (k : Nat → ClassId) (B0 : Nat) (ad : Nat → Nat) (al sw : Nat) : xe_Con l yX1_of (zw yX1_of cX1_of 3 (some .int)) ({ frames := 1, cells := 0, slots := 0, locals := 21 }) D k ad (zEx B0 ad al sw) xGT xSC xRF fx_X1_of := by
  have hEx := zEx_ok B0 ad al sw
  refine xe_mk (cc := cX1_of) (nL := 3) (ret := (some .int)) (fg := xg_X1_of) (fp := xp_X1_of) (sg := []) (lc := []) (cv := xv_X1_of) (cs := xt_X1_of) (ins := xi_X1_of) (by decide) rfl hEx (by decide +kernel) hx_X1_of ?_
  intro p e s m args below meth c Q Sg w0 A θ S hK hE hAB hA hth
  refine ⟨?_, ?_, ?_, ?_, ?_, ?_⟩
  · exact zf_ac ((fun H locs ws a q0 fs v rest pc ls hP he hv hdg kk => va_get (D := D) (ci := 0) (C := RX1) (T := TX1) (N := 2) (own := RX1) S.1 S.2.1 S.2.2.2.2 (zg_in inW_X1) S.2.2.2.1 hK hP q0 he rfl 0 (by decide) (S.2.2.2.2 (.fieldLink RX1 9 "RungMoney$Debts" "rows" "[I") (List.mem_cons_of_mem _ zw_256)) (fun _ h9 => h9) hv hdg kk)) zf_an
  · exact zf_an
  · exact xe_n2
  · exact xe_n3
  · exact xe_n4
  · exact xe_a4 (xe_crS S hEx hE hAB hA hK hth (kx_X1_isPair l D k B0 ad al sw) (va_cwS 2 S.2.2.2.2 (zg_S zw_583 zw_584 zw_101 zw_585) rfl rfl rfl (by decide +kernel) ⟨(Nat.le_of_ble_eq_true rfl), (Nat.le_of_ble_eq_true rfl)⟩) ⟨(Nat.le_of_ble_eq_true rfl), (Nat.le_of_ble_eq_true rfl)⟩) xe_n4
set_option maxRecDepth 100000 in
theorem pt_X1_of_0 {a1 a2 : Int32} {I I1 : Nat → Nat → Int32} {L L1 : Nat → Nat → Int64} (c1 : fx_X1_isPair [.int a2, .int a1] (I, L) (some (.int 1)) (I1, L1)) (h1 : xe_ib ((a1 * (6 : Int32)) + a2) 36 = true) : ∃ n, xr_X1_of n (0, [(0, .ref 72), (1, .int a1), (2, .int a2)], [], (I, L)) (some (.int (I1 73 ((((a1 * (6 : Int32)) + a2)).toInt.toNat)))) (I1, L1) := by
  refine xe_go 1 (s' := (2, [(0, .ref 72), (1, .int a1), (2, .int a2)], [.int a2, .int a1], (I, L))) rfl ?_
  refine xe_sta (n := 2) (f := fx_X1_isPair) rfl (Nat.le_of_ble_eq_true rfl) (List.mem_of_getElem? (i := 0) rfl) (Nat.le_of_ble_eq_true rfl) c1 ?_
  refine xe_ar 8 (A := (19, [(0, .ref 72), (1, .int a1), (2, .int a2)], [.int (I1 73 ((((a1 * (6 : Int32)) + a2)).toInt.toNat))], (I1, L1))) h1 rfl ?_
  refine xe_go 0 (s' := (23, [(0, .ref 72), (1, .int a1), (2, .int a2)], [.int (I1 73 ((((a1 * (6 : Int32)) + a2)).toInt.toNat))], (I1, L1))) rfl ?_
  exact xe_end rfl rfl rfl
set_option maxRecDepth 100000 in
theorem pt_X1_of_1 {a1 a2 : Int32} {I I1 : Nat → Nat → Int32} {L L1 : Nat → Nat → Int64} (c1 : fx_X1_isPair [.int a2, .int a1] (I, L) (some (.int 0)) (I1, L1)) : ∃ n, xr_X1_of n (0, [(0, .ref 72), (1, .int a1), (2, .int a2)], [], (I, L)) (some (.int (0 : Int32))) (I1, L1) := by
  refine xe_go 1 (s' := (2, [(0, .ref 72), (1, .int a1), (2, .int a2)], [.int a2, .int a1], (I, L))) rfl ?_
  refine xe_sta (n := 2) (f := fx_X1_isPair) rfl (Nat.le_of_ble_eq_true rfl) (List.mem_of_getElem? (i := 0) rfl) (Nat.le_of_ble_eq_true rfl) c1 ?_
  refine xe_go 1 (s' := (23, [(0, .ref 72), (1, .int a1), (2, .int a2)], [.int (0 : Int32)], (I1, L1))) rfl ?_
  exact xe_end rfl rfl rfl
def xi_X1_put : List (Nat × Nat × Instr) := [(0, 1, .iload_n 1), (1, 1, .iload_n 2), (2, 3, .invokestatic 30), (5, 3, .ifCond .eq 15), (8, 1, .aload_n 0), (9, 3, .getfield 9), (12, 1, .iload_n 1), (13, 2, .bipush 6), (15, 1, .imul), (16, 1, .iload_n 2), (17, 1, .iadd), (18, 1, .iload_n 3), (19, 1, .iastore), (20, 1, .return_)]
def xg_X1_put : zf_ft := [(9, 0, 0, .inl (0, 0))]
def xp_X1_put : zf_ft := []
def xv_X1_put : List (Nat × Nat × xe_F) := []
def xt_X1_put : List (Nat × Nat × xe_F) := [(30, 2, fx_X1_isPair)]
abbrev xr_X1_put := xe_run xGT xSC xRF 4 xg_X1_put xp_X1_put [] [] xv_X1_put xt_X1_put xi_X1_put
def fx_X1_put : xe_F := fun us hp v hp' => (us.map fun v => v.category).sum ≤ 4 ∧ xe_rt none v ∧ (∃ ar, us = ar ++ [.ref 72]) ∧ ∃ n, xr_X1_put n (0, xe_ag 0 us.reverse, [], hp) v hp'
theorem mk_X1_put {a1 : Int32} {a2 : Int32} {a3 : Int32} {hp hp' : xe_H} {v : Option Value} (hr : xe_rt none v) (h : ∃ n, xr_X1_put n (0, [(0, .ref 72), (1, .int a1), (2, .int a2), (3, .int a3)], [], hp) v hp') : fx_X1_put [.int a3, .int a2, .int a1, .ref 72] hp v hp' := ⟨Nat.le_of_ble_eq_true rfl, hr, ⟨[.int a3, .int a2, .int a1], rfl⟩, h⟩
theorem hx_X1_put : ∀ us hp v hp', fx_X1_put us hp v hp' → (us.map fun v => v.category).sum ≤ 4 ∧ xe_rt none v ∧ ∃ n, xr_X1_put n (0, xe_ag 0 us.reverse, [], hp) v hp' := fun us hp v hp' h => ⟨h.1, h.2.1, h.2.2.2⟩
theorem fr_X1_put : ∀ us hp v hp', fx_X1_put us hp v hp' → ∃ ar, us = ar ++ [.ref 72] := fun us hp v hp' h => h.2.2.1
set_option maxRecDepth 100000 in
set_option maxHeartbeats 4000000 in
theorem kx_X1_put (l : Launch) (D : va_G) (k : Nat → ClassId) (B0 : Nat) (ad : Nat → Nat) (al sw : Nat) : xe_Con l yX1_put (zw yX1_put cX1_put 4 none) ({ frames := 1, cells := 0, slots := 0, locals := 21 }) D k ad (zEx B0 ad al sw) xGT xSC xRF fx_X1_put := by
  have hEx := zEx_ok B0 ad al sw
  refine xe_mk (cc := cX1_put) (nL := 4) (ret := none) (fg := xg_X1_put) (fp := xp_X1_put) (sg := []) (lc := []) (cv := xv_X1_put) (cs := xt_X1_put) (ins := xi_X1_put) (by decide) rfl hEx (by decide +kernel) hx_X1_put ?_
  intro p e s m args below meth c Q Sg w0 A θ S hK hE hAB hA hth
  refine ⟨?_, ?_, ?_, ?_, ?_, ?_⟩
  · exact zf_ac ((fun H locs ws a q0 fs v rest pc ls hP he hv hdg kk => va_get (D := D) (ci := 0) (C := RX1) (T := TX1) (N := 2) (own := RX1) S.1 S.2.1 S.2.2.2.2 (zg_in inW_X1) S.2.2.2.1 hK hP q0 he rfl 0 (by decide) (S.2.2.2.2 (.fieldLink RX1 9 "RungMoney$Debts" "rows" "[I") (List.mem_cons_of_mem _ zw_256)) (fun _ h9 => h9) hv hdg kk)) zf_an
  · exact zf_an
  · exact xe_n2
  · exact xe_n3
  · exact xe_n4
  · exact xe_a4 (xe_crS S hEx hE hAB hA hK hth (kx_X1_isPair l D k B0 ad al sw) (va_cwS 2 S.2.2.2.2 (zg_S zw_583 zw_584 zw_101 zw_585) rfl rfl rfl (by decide +kernel) ⟨(Nat.le_of_ble_eq_true rfl), (Nat.le_of_ble_eq_true rfl)⟩) ⟨(Nat.le_of_ble_eq_true rfl), (Nat.le_of_ble_eq_true rfl)⟩) xe_n4
set_option maxRecDepth 100000 in
theorem pt_X1_put_0 {a1 a2 a3 : Int32} {I I1 : Nat → Nat → Int32} {L L1 : Nat → Nat → Int64} (c1 : fx_X1_isPair [.int a2, .int a1] (I, L) (some (.int 1)) (I1, L1)) (h1 : xe_ib ((a1 * (6 : Int32)) + a2) 36 = true) : ∃ n, xr_X1_put n (0, [(0, .ref 72), (1, .int a1), (2, .int a2), (3, .int a3)], [], (I, L)) none ((xu I1 73 ((((a1 * (6 : Int32)) + a2)).toInt.toNat) a3), L1) := by
  refine xe_go 1 (s' := (2, [(0, .ref 72), (1, .int a1), (2, .int a2), (3, .int a3)], [.int a2, .int a1], (I, L))) rfl ?_
  refine xe_sta (n := 2) (f := fx_X1_isPair) rfl (Nat.le_of_ble_eq_true rfl) (List.mem_of_getElem? (i := 0) rfl) (Nat.le_of_ble_eq_true rfl) c1 ?_
  refine xe_ar 9 (A := (20, [(0, .ref 72), (1, .int a1), (2, .int a2), (3, .int a3)], [], ((xu I1 73 ((((a1 * (6 : Int32)) + a2)).toInt.toNat) a3), L1))) h1 rfl ?_
  exact xe_end rfl rfl rfl
set_option maxRecDepth 100000 in
theorem pt_X1_put_1 {a1 a2 a3 : Int32} {I I1 : Nat → Nat → Int32} {L L1 : Nat → Nat → Int64} (c1 : fx_X1_isPair [.int a2, .int a1] (I, L) (some (.int 0)) (I1, L1)) : ∃ n, xr_X1_put n (0, [(0, .ref 72), (1, .int a1), (2, .int a2), (3, .int a3)], [], (I, L)) none (I1, L1) := by
  refine xe_go 1 (s' := (2, [(0, .ref 72), (1, .int a1), (2, .int a2), (3, .int a3)], [.int a2, .int a1], (I, L))) rfl ?_
  refine xe_sta (n := 2) (f := fx_X1_isPair) rfl (Nat.le_of_ble_eq_true rfl) (List.mem_of_getElem? (i := 0) rfl) (Nat.le_of_ble_eq_true rfl) c1 ?_
  refine xe_go 0 (s' := (20, [(0, .ref 72), (1, .int a1), (2, .int a2), (3, .int a3)], [], (I1, L1))) rfl ?_
  exact xe_end rfl rfl rfl
def xi_J7_fill_53178 : List (Nat × Nat × Instr) := [(0, 1, .iconst 0), (1, 1, .istore_n 2), (2, 1, .aload_n 0), (3, 1, .arraylength), (4, 1, .istore_n 3), (5, 1, .iload_n 2), (6, 1, .iload_n 3), (7, 3, .if_icmp .ge 13), (10, 1, .aload_n 0), (11, 1, .iload_n 2), (12, 1, .iload_n 1), (13, 1, .iastore), (14, 3, .iinc 2 1), (17, 3, .goto (-12)), (20, 1, .return_)]
def xg_J7_fill_53178 : zf_ft := []
def xp_J7_fill_53178 : zf_ft := []
def xv_J7_fill_53178 : List (Nat × Nat × xe_F) := []
def xt_J7_fill_53178 : List (Nat × Nat × xe_F) := []
abbrev xr_J7_fill_53178 := xe_run xGT xSC xRF 4 xg_J7_fill_53178 xp_J7_fill_53178 [] [] xv_J7_fill_53178 xt_J7_fill_53178 xi_J7_fill_53178
def fx_J7_fill_53178 : xe_F := fun us hp v hp' => (us.map fun v => v.category).sum ≤ 4 ∧ xe_rt none v ∧ True ∧ ∃ n, xr_J7_fill_53178 n (0, xe_ag 0 us.reverse, [], hp) v hp'
theorem mk_J7_fill_53178 {g0 : Nat} {a1 : Int32} {hp hp' : xe_H} {v : Option Value} (hr : xe_rt none v) (h : ∃ n, xr_J7_fill_53178 n (0, [(0, .ref g0), (1, .int a1)], [], hp) v hp') : fx_J7_fill_53178 [.int a1, .ref g0] hp v hp' := ⟨Nat.le_of_ble_eq_true rfl, hr, trivial, h⟩
theorem hx_J7_fill_53178 : ∀ us hp v hp', fx_J7_fill_53178 us hp v hp' → (us.map fun v => v.category).sum ≤ 4 ∧ xe_rt none v ∧ ∃ n, xr_J7_fill_53178 n (0, xe_ag 0 us.reverse, [], hp) v hp' := fun us hp v hp' h => ⟨h.1, h.2.1, h.2.2.2⟩
set_option maxRecDepth 100000 in
set_option maxHeartbeats 4000000 in
theorem kx_J7_fill_53178 (l : Launch) (D : va_G) (k : Nat → ClassId) (B0 : Nat) (ad : Nat → Nat) (al sw : Nat) : xe_Con l yJ7_fill_53178 (zw yJ7_fill_53178 cJ7_fill_53178 4 none) ({ frames := 0, cells := 0, slots := 0, locals := 0 }) D k ad (zEx B0 ad al sw) xGT xSC xRF fx_J7_fill_53178 := by
  have hEx := zEx_ok B0 ad al sw
  refine xe_mk (cc := cJ7_fill_53178) (nL := 4) (ret := none) (fg := xg_J7_fill_53178) (fp := xp_J7_fill_53178) (sg := []) (lc := []) (cv := xv_J7_fill_53178) (cs := xt_J7_fill_53178) (ins := xi_J7_fill_53178) (by decide) rfl hEx (by decide +kernel) hx_J7_fill_53178 ?_
  intro p e s m args below meth c Q Sg w0 A θ S hK hE hAB hA hth
  refine ⟨?_, ?_, ?_, ?_, ?_, ?_⟩
  · exact zf_an
  · exact zf_an
  · exact xe_n2
  · exact xe_n3
  · exact xe_n4
  · exact xe_n4
set_option maxRecDepth 100000 in
theorem pt_J7_fill_53178_73_0 {a1 : Int32} {I : Nat → Nat → Int32} {L : Nat → Nat → Int64} {v9 : Option Value} {hp9 : xe_H} (r9 : ∃ n, xr_J7_fill_53178 n (5, [(0, .ref 73), (1, .int a1), (2, .int (0 : Int32)), (3, .int (36 : Int32))], [], (I, L)) v9 hp9) : ∃ n, xr_J7_fill_53178 n (0, [(0, .ref 73), (1, .int a1)], [], (I, L)) v9 hp9 := by
  refine xe_go 4 (s' := (5, [(0, .ref 73), (1, .int a1), (2, .int (0 : Int32)), (3, .int (36 : Int32))], [], (I, L))) rfl ?_
  exact xe_nrm [0, 1, 2, 3] rfl r9
set_option maxRecDepth 100000 in
theorem pt_J7_fill_53178_73_1 {l1 l2 l3 : Int32} {I : Nat → Nat → Int32} {L : Nat → Nat → Int64} (h1 : (xe_cmp .ge l2 l3) = true) : ∃ n, xr_J7_fill_53178 n (5, [(0, .ref 73), (1, .int l1), (2, .int l2), (3, .int l3)], [], (I, L)) none (I, L) := by
  refine xe_bT 2 (A := (20, [(0, .ref 73), (1, .int l1), (2, .int l2), (3, .int l3)], [], (I, L))) (B := (10, [(0, .ref 73), (1, .int l1), (2, .int l2), (3, .int l3)], [], (I, L))) h1 rfl ?_
  exact xe_end rfl rfl rfl
set_option maxRecDepth 100000 in
theorem pt_J7_fill_53178_73_2 {l1 l2 l3 : Int32} {I : Nat → Nat → Int32} {L : Nat → Nat → Int64} (h1 : (xe_cmp .ge l2 l3) = false) (h2 : xe_ib l2 36 = true) {v9 : Option Value} {hp9 : xe_H} (r9 : ∃ n, xr_J7_fill_53178 n (5, [(0, .ref 73), (1, .int l1), (2, .int (l2 + (1 : Int32))), (3, .int l3)], [], ((xu I 73 ((l2).toInt.toNat) l1), L)) v9 hp9) : ∃ n, xr_J7_fill_53178 n (5, [(0, .ref 73), (1, .int l1), (2, .int l2), (3, .int l3)], [], (I, L)) v9 hp9 := by
  refine xe_bF 2 (A := (20, [(0, .ref 73), (1, .int l1), (2, .int l2), (3, .int l3)], [], (I, L))) (B := (10, [(0, .ref 73), (1, .int l1), (2, .int l2), (3, .int l3)], [], (I, L))) h1 rfl ?_
  refine xe_ar 3 (A := (14, [(0, .ref 73), (1, .int l1), (2, .int l2), (3, .int l3)], [], ((xu I 73 ((l2).toInt.toNat) l1), L))) h2 rfl ?_
  refine xe_go 1 (s' := (5, [(0, .ref 73), (1, .int l1), (2, .int (l2 + (1 : Int32))), (3, .int l3)], [], ((xu I 73 ((l2).toInt.toNat) l1), L))) rfl ?_
  exact xe_nrm [0, 1, 2, 3] rfl r9
set_option maxRecDepth 100000 in
theorem pt_J7_fill_53178_75_0 {a1 : Int32} {I : Nat → Nat → Int32} {L : Nat → Nat → Int64} {v9 : Option Value} {hp9 : xe_H} (r9 : ∃ n, xr_J7_fill_53178 n (5, [(0, .ref 75), (1, .int a1), (2, .int (0 : Int32)), (3, .int (6 : Int32))], [], (I, L)) v9 hp9) : ∃ n, xr_J7_fill_53178 n (0, [(0, .ref 75), (1, .int a1)], [], (I, L)) v9 hp9 := by
  refine xe_go 4 (s' := (5, [(0, .ref 75), (1, .int a1), (2, .int (0 : Int32)), (3, .int (6 : Int32))], [], (I, L))) rfl ?_
  exact xe_nrm [0, 1, 2, 3] rfl r9
set_option maxRecDepth 100000 in
theorem pt_J7_fill_53178_75_1 {l1 l2 l3 : Int32} {I : Nat → Nat → Int32} {L : Nat → Nat → Int64} (h1 : (xe_cmp .ge l2 l3) = true) : ∃ n, xr_J7_fill_53178 n (5, [(0, .ref 75), (1, .int l1), (2, .int l2), (3, .int l3)], [], (I, L)) none (I, L) := by
  refine xe_bT 2 (A := (20, [(0, .ref 75), (1, .int l1), (2, .int l2), (3, .int l3)], [], (I, L))) (B := (10, [(0, .ref 75), (1, .int l1), (2, .int l2), (3, .int l3)], [], (I, L))) h1 rfl ?_
  exact xe_end rfl rfl rfl
set_option maxRecDepth 100000 in
theorem pt_J7_fill_53178_75_2 {l1 l2 l3 : Int32} {I : Nat → Nat → Int32} {L : Nat → Nat → Int64} (h1 : (xe_cmp .ge l2 l3) = false) (h2 : xe_ib l2 6 = true) {v9 : Option Value} {hp9 : xe_H} (r9 : ∃ n, xr_J7_fill_53178 n (5, [(0, .ref 75), (1, .int l1), (2, .int (l2 + (1 : Int32))), (3, .int l3)], [], ((xu I 75 ((l2).toInt.toNat) l1), L)) v9 hp9) : ∃ n, xr_J7_fill_53178 n (5, [(0, .ref 75), (1, .int l1), (2, .int l2), (3, .int l3)], [], (I, L)) v9 hp9 := by
  refine xe_bF 2 (A := (20, [(0, .ref 75), (1, .int l1), (2, .int l2), (3, .int l3)], [], (I, L))) (B := (10, [(0, .ref 75), (1, .int l1), (2, .int l2), (3, .int l3)], [], (I, L))) h1 rfl ?_
  refine xe_ar 3 (A := (14, [(0, .ref 75), (1, .int l1), (2, .int l2), (3, .int l3)], [], ((xu I 75 ((l2).toInt.toNat) l1), L))) h2 rfl ?_
  refine xe_go 1 (s' := (5, [(0, .ref 75), (1, .int l1), (2, .int (l2 + (1 : Int32))), (3, .int l3)], [], ((xu I 75 ((l2).toInt.toNat) l1), L))) rfl ?_
  exact xe_nrm [0, 1, 2, 3] rfl r9
def xi_X1_clear : List (Nat × Nat × Instr) := [(0, 1, .aload_n 0), (1, 3, .getfield 9), (4, 1, .iconst 0), (5, 3, .invokestatic 18), (8, 1, .return_)]
def xg_X1_clear : zf_ft := [(9, 0, 0, .inl (0, 0))]
def xp_X1_clear : zf_ft := []
def xv_X1_clear : List (Nat × Nat × xe_F) := []
def xt_X1_clear : List (Nat × Nat × xe_F) := [(18, 2, fx_J7_fill_53178)]
abbrev xr_X1_clear := xe_run xGT xSC xRF 1 xg_X1_clear xp_X1_clear [] [] xv_X1_clear xt_X1_clear xi_X1_clear
def fx_X1_clear : xe_F := fun us hp v hp' => (us.map fun v => v.category).sum ≤ 1 ∧ xe_rt none v ∧ (∃ ar, us = ar ++ [.ref 72]) ∧ ∃ n, xr_X1_clear n (0, xe_ag 0 us.reverse, [], hp) v hp'
theorem mk_X1_clear  {hp hp' : xe_H} {v : Option Value} (hr : xe_rt none v) (h : ∃ n, xr_X1_clear n (0, [(0, .ref 72)], [], hp) v hp') : fx_X1_clear [.ref 72] hp v hp' := ⟨Nat.le_of_ble_eq_true rfl, hr, ⟨[], rfl⟩, h⟩
theorem hx_X1_clear : ∀ us hp v hp', fx_X1_clear us hp v hp' → (us.map fun v => v.category).sum ≤ 1 ∧ xe_rt none v ∧ ∃ n, xr_X1_clear n (0, xe_ag 0 us.reverse, [], hp) v hp' := fun us hp v hp' h => ⟨h.1, h.2.1, h.2.2.2⟩
theorem fr_X1_clear : ∀ us hp v hp', fx_X1_clear us hp v hp' → ∃ ar, us = ar ++ [.ref 72] := fun us hp v hp' h => h.2.2.1
set_option maxRecDepth 100000 in
set_option maxHeartbeats 4000000 in
theorem kx_X1_clear (l : Launch) (D : va_G) (k : Nat → ClassId) (B0 : Nat) (ad : Nat → Nat) (al sw : Nat) : xe_Con l yX1_clear (zw yX1_clear cX1_clear 1 none) ({ frames := 1, cells := 0, slots := 0, locals := 23 }) D k ad (zEx B0 ad al sw) xGT xSC xRF fx_X1_clear := by
  have hEx := zEx_ok B0 ad al sw
  refine xe_mk (cc := cX1_clear) (nL := 1) (ret := none) (fg := xg_X1_clear) (fp := xp_X1_clear) (sg := []) (lc := []) (cv := xv_X1_clear) (cs := xt_X1_clear) (ins := xi_X1_clear) (by decide) rfl hEx (by decide +kernel) hx_X1_clear ?_
  intro p e s m args below meth c Q Sg w0 A θ S hK hE hAB hA hth
  refine ⟨?_, ?_, ?_, ?_, ?_, ?_⟩
  · exact zf_ac ((fun H locs ws a q0 fs v rest pc ls hP he hv hdg kk => va_get (D := D) (ci := 0) (C := RX1) (T := TX1) (N := 2) (own := RX1) S.1 S.2.1 S.2.2.2.2 (zg_in inW_X1) S.2.2.2.1 hK hP q0 he rfl 0 (by decide) (S.2.2.2.2 (.fieldLink RX1 9 "RungMoney$Debts" "rows" "[I") (List.mem_cons_of_mem _ zw_256)) (fun _ h9 => h9) hv hdg kk)) zf_an
  · exact zf_an
  · exact xe_n2
  · exact xe_n3
  · exact xe_n4
  · exact xe_a4 (xe_crS S hEx hE hAB hA hK hth (kx_J7_fill_53178 l D k B0 ad al sw) (va_cwS 2 S.2.2.2.2 (zg_S zw_487 zw_397 zw_108 zw_398) rfl rfl rfl (by decide +kernel) ⟨(Nat.le_of_ble_eq_true rfl), (Nat.le_of_ble_eq_true rfl)⟩) ⟨(Nat.le_of_ble_eq_true rfl), (Nat.le_of_ble_eq_true rfl)⟩) xe_n4
set_option maxRecDepth 100000 in
theorem pt_X1_clear_0 {I I1 : Nat → Nat → Int32} {L L1 : Nat → Nat → Int64} (c1 : fx_J7_fill_53178 [.int (0 : Int32), .ref 73] (I, L) none (I1, L1)) : ∃ n, xr_X1_clear n (0, [(0, .ref 72)], [], (I, L)) none (I1, L1) := by
  refine xe_go 2 (s' := (5, [(0, .ref 72)], [.int (0 : Int32), .ref 73], (I, L))) rfl ?_
  refine xe_sta (n := 2) (f := fx_J7_fill_53178) rfl (Nat.le_of_ble_eq_true rfl) (List.mem_of_getElem? (i := 0) rfl) (Nat.le_of_ble_eq_true rfl) c1 ?_
  exact xe_end rfl rfl rfl
def xi_X10_clear : List (Nat × Nat × Instr) := [(0, 1, .aload_n 0), (1, 1, .iconst 0), (2, 3, .putfield 37), (5, 1, .aload_n 0), (6, 3, .getfield 18), (9, 1, .iconst 0), (10, 3, .putfield 40), (13, 1, .aload_n 0), (14, 3, .getfield 25), (17, 3, .invokevirtual 43), (20, 1, .aload_n 0), (21, 3, .getfield 29), (24, 1, .iconst 0), (25, 3, .invokestatic 46), (28, 1, .aload_n 0), (29, 1, .iconst 1), (30, 3, .putfield 33), (33, 1, .aload_n 0), (34, 1, .iconst 0), (35, 3, .putfield 52), (38, 1, .aload_n 0), (39, 1, .iconst 0), (40, 3, .putfield 55), (43, 1, .aload_n 0), (44, 1, .iconst 0), (45, 3, .putfield 58), (48, 1, .return_)]
def xg_X10_clear : zf_ft := [(18, 8, 2, .inl (0, 0)), (25, 8, 3, .inl (0, 0)), (29, 8, 4, .inl (0, 0))]
def xp_X10_clear : zf_ft := [(37, 8, 0, .inl ((-2147483648), 2147483647)), (40, 1, 0, .inl ((-2147483648), 2147483647)), (33, 8, 5, .inl ((-2147483648), 2147483647)), (52, 8, 6, .inl ((-2147483648), 2147483647)), (55, 8, 7, .inl ((-2147483648), 2147483647)), (58, 8, 8, .inl ((-2147483648), 2147483647))]
def xv_X10_clear : List (Nat × Nat × xe_F) := [(43, 1, fx_X1_clear)]
def xt_X10_clear : List (Nat × Nat × xe_F) := [(46, 2, fx_J7_fill_53178)]
abbrev xr_X10_clear := xe_run xGT xSC xRF 1 xg_X10_clear xp_X10_clear [] [] xv_X10_clear xt_X10_clear xi_X10_clear
def fx_X10_clear : xe_F := fun us hp v hp' => (us.map fun v => v.category).sum ≤ 1 ∧ xe_rt none v ∧ (∃ ar, us = ar ++ [.ref 64]) ∧ ∃ n, xr_X10_clear n (0, xe_ag 0 us.reverse, [], hp) v hp'
theorem mk_X10_clear  {hp hp' : xe_H} {v : Option Value} (hr : xe_rt none v) (h : ∃ n, xr_X10_clear n (0, [(0, .ref 64)], [], hp) v hp') : fx_X10_clear [.ref 64] hp v hp' := ⟨Nat.le_of_ble_eq_true rfl, hr, ⟨[], rfl⟩, h⟩
theorem hx_X10_clear : ∀ us hp v hp', fx_X10_clear us hp v hp' → (us.map fun v => v.category).sum ≤ 1 ∧ xe_rt none v ∧ ∃ n, xr_X10_clear n (0, xe_ag 0 us.reverse, [], hp) v hp' := fun us hp v hp' h => ⟨h.1, h.2.1, h.2.2.2⟩
theorem fr_X10_clear : ∀ us hp v hp', fx_X10_clear us hp v hp' → ∃ ar, us = ar ++ [.ref 64] := fun us hp v hp' h => h.2.2.1
set_option maxRecDepth 100000 in
set_option maxHeartbeats 4000000 in
theorem kx_X10_clear (l : Launch) (D : va_G) (k : Nat → ClassId) (B0 : Nat) (ad : Nat → Nat) (al sw : Nat) : xe_Con l yX10_clear (zw yX10_clear cX10_clear 1 none) ({ frames := 2, cells := 0, slots := 0, locals := 43 }) D k ad (zEx B0 ad al sw) xGT xSC xRF fx_X10_clear := by
  have hEx := zEx_ok B0 ad al sw
  refine xe_mk (cc := cX10_clear) (nL := 1) (ret := none) (fg := xg_X10_clear) (fp := xp_X10_clear) (sg := []) (lc := []) (cv := xv_X10_clear) (cs := xt_X10_clear) (ins := xi_X10_clear) (by decide) rfl hEx (by decide +kernel) hx_X10_clear ?_
  intro p e s m args below meth c Q Sg w0 A θ S hK hE hAB hA hth
  refine ⟨?_, ?_, ?_, ?_, ?_, ?_⟩
  · exact zf_ac ((fun H locs ws a q0 fs v rest pc ls hP he hv hdg kk => va_get (D := D) (ci := 8) (C := RX10) (T := TX10) (N := 9) (own := RX10) S.1 S.2.1 S.2.2.2.2 (zg_in inW_X10) S.2.2.2.1 hK hP q0 he rfl 2 (by decide) (S.2.2.2.2 (.fieldLink RX10 18 "RungMoney$Town" "ladders" "LRungMoney$Ladders;") (List.mem_cons_of_mem _ zw_267)) (fun _ h9 => h9) hv hdg kk)) (zf_ac ((fun H locs ws a q0 fs v rest pc ls hP he hv hdg kk => va_get (D := D) (ci := 8) (C := RX10) (T := TX10) (N := 9) (own := RX10) S.1 S.2.1 S.2.2.2.2 (zg_in inW_X10) S.2.2.2.1 hK hP q0 he rfl 3 (by decide) (S.2.2.2.2 (.fieldLink RX10 25 "RungMoney$Town" "debts" "LRungMoney$Debts;") (List.mem_cons_of_mem _ zw_270)) (fun _ h9 => h9) hv hdg kk)) (zf_ac ((fun H locs ws a q0 fs v rest pc ls hP he hv hdg kk => va_get (D := D) (ci := 8) (C := RX10) (T := TX10) (N := 9) (own := RX10) S.1 S.2.1 S.2.2.2.2 (zg_in inW_X10) S.2.2.2.1 hK hP q0 he rfl 4 (by decide) (S.2.2.2.2 (.fieldLink RX10 29 "RungMoney$Town" "payments" "[I") (List.mem_cons_of_mem _ zw_273)) (fun _ h9 => h9) hv hdg kk)) zf_an))
  · exact zf_ac ((fun H locs ws a q0 fs v rest pc ls hP hD hS he hl hv hdg kk => by obtain ⟨x, rfl, h1, h2⟩ := hv; exact va_put (D := D) (ci := 8) (v := .int x) (ty := .int) (C := RX10) (T := TX10) (N := 9) (own := RX10) S.1 S.2.1 S.2.2.2.2 (zg_in inW_X10) tyX10 tyX10_ok nmX10 S.2.2.2.1 hK hP hD hS q0 he rfl 0 (by decide) (S.2.2.2.2 (.fieldLink RX10 37 "RungMoney$Town" "men" "I") (List.mem_cons_of_mem _ zw_263)) (fun _ h9 => h9) rfl (by decide +kernel) rfl rfl hl hdg kk)) (zf_ac ((fun H locs ws a q0 fs v rest pc ls hP hD hS he hl hv hdg kk => by obtain ⟨x, rfl, h1, h2⟩ := hv; exact va_put (D := D) (ci := 1) (v := .int x) (ty := .int) (C := RX3) (T := TX3) (N := 6) (own := RX10) S.1 S.2.1 S.2.2.2.2 (zg_in inW_X3) tyX3 tyX3_ok nmX3 S.2.2.2.1 hK hP hD hS q0 he rfl 0 (by decide) (S.2.2.2.2 (.fieldLink RX10 40 "RungMoney$Ladders" "size" "I") (List.mem_cons_of_mem _ zw_227)) (fun _ h9 => h9) rfl (by decide +kernel) rfl rfl hl hdg kk)) (zf_ac ((fun H locs ws a q0 fs v rest pc ls hP hD hS he hl hv hdg kk => by obtain ⟨x, rfl, h1, h2⟩ := hv; exact va_put (D := D) (ci := 8) (v := .int x) (ty := .int) (C := RX10) (T := TX10) (N := 9) (own := RX10) S.1 S.2.1 S.2.2.2.2 (zg_in inW_X10) tyX10 tyX10_ok nmX10 S.2.2.2.1 hK hP hD hS q0 he rfl 5 (by decide) (S.2.2.2.2 (.fieldLink RX10 33 "RungMoney$Town" "rot" "I") (List.mem_cons_of_mem _ zw_275)) (fun _ h9 => h9) rfl (by decide +kernel) rfl rfl hl hdg kk)) (zf_ac ((fun H locs ws a q0 fs v rest pc ls hP hD hS he hl hv hdg kk => by obtain ⟨x, rfl, h1, h2⟩ := hv; exact va_put (D := D) (ci := 8) (v := .int x) (ty := .int) (C := RX10) (T := TX10) (N := 9) (own := RX10) S.1 S.2.1 S.2.2.2.2 (zg_in inW_X10) tyX10 tyX10_ok nmX10 S.2.2.2.1 hK hP hD hS q0 he rfl 6 (by decide) (S.2.2.2.2 (.fieldLink RX10 52 "RungMoney$Town" "winters" "I") (List.mem_cons_of_mem _ zw_278)) (fun _ h9 => h9) rfl (by decide +kernel) rfl rfl hl hdg kk)) (zf_ac ((fun H locs ws a q0 fs v rest pc ls hP hD hS he hl hv hdg kk => by obtain ⟨x, rfl, h1, h2⟩ := hv; exact va_put (D := D) (ci := 8) (v := .int x) (ty := .int) (C := RX10) (T := TX10) (N := 9) (own := RX10) S.1 S.2.1 S.2.2.2.2 (zg_in inW_X10) tyX10 tyX10_ok nmX10 S.2.2.2.1 hK hP hD hS q0 he rfl 7 (by decide) (S.2.2.2.2 (.fieldLink RX10 55 "RungMoney$Town" "mint" "I") (List.mem_cons_of_mem _ zw_280)) (fun _ h9 => h9) rfl (by decide +kernel) rfl rfl hl hdg kk)) (zf_ac ((fun H locs ws a q0 fs v rest pc ls hP hD hS he hl hv hdg kk => by obtain ⟨x, rfl, h1, h2⟩ := hv; exact va_put (D := D) (ci := 8) (v := .int x) (ty := .int) (C := RX10) (T := TX10) (N := 9) (own := RX10) S.1 S.2.1 S.2.2.2.2 (zg_in inW_X10) tyX10 tyX10_ok nmX10 S.2.2.2.1 hK hP hD hS q0 he rfl 8 (by decide) (S.2.2.2.2 (.fieldLink RX10 58 "RungMoney$Town" "cuts" "I") (List.mem_cons_of_mem _ zw_282)) (fun _ h9 => h9) rfl (by decide +kernel) rfl rfl hl hdg kk)) zf_an)))))
  · exact xe_n2
  · exact xe_n3
  · exact xe_a4 (xe_crV S hEx hE hAB hA hK hth (kx_X1_clear l D k B0 ad al sw) (cwV 0 S.2.2.2.2 (zg_V zw_483 zw_484 zw_485 zw_101 zw_486) rfl rfl rfl (by decide +kernel) ⟨(Nat.le_of_ble_eq_true rfl), (Nat.le_of_ble_eq_true rfl)⟩) ⟨(Nat.le_of_ble_eq_true rfl), (Nat.le_of_ble_eq_true rfl)⟩ 0 rfl rfl 72 (by decide +kernel) fr_X1_clear) xe_n4
  · exact xe_a4 (xe_crS S hEx hE hAB hA hK hth (kx_J7_fill_53178 l D k B0 ad al sw) (va_cwS 2 S.2.2.2.2 (zg_S zw_488 zw_397 zw_108 zw_398) rfl rfl rfl (by decide +kernel) ⟨(Nat.le_of_ble_eq_true rfl), (Nat.le_of_ble_eq_true rfl)⟩) ⟨(Nat.le_of_ble_eq_true rfl), (Nat.le_of_ble_eq_true rfl)⟩) xe_n4
set_option maxRecDepth 100000 in
theorem pt_X10_clear_0 {I I1 I2 : Nat → Nat → Int32} {L L1 L2 : Nat → Nat → Int64} (c1 : fx_X1_clear [.ref 72] ((xu (xu I 64 0 (0 : Int32)) 66 0 (0 : Int32)), L) none (I1, L1)) (c2 : fx_J7_fill_53178 [.int (0 : Int32), .ref 75] (I1, L1) none (I2, L2)) : ∃ n, xr_X10_clear n (0, [(0, .ref 64)], [], (I, L)) none ((xu (xu (xu (xu I2 64 5 (1 : Int32)) 64 6 (0 : Int32)) 64 7 (0 : Int32)) 64 8 (0 : Int32)), L2) := by
  refine xe_go 8 (s' := (17, [(0, .ref 64)], [.ref 72], ((xu (xu I 64 0 (0 : Int32)) 66 0 (0 : Int32)), L))) rfl ?_
  refine xe_vir (n := 1) (f := fx_X1_clear) rfl (Nat.le_of_ble_eq_true rfl) (List.mem_of_getElem? (i := 0) rfl) (Nat.le_of_ble_eq_true rfl) c1 ?_
  refine xe_go 2 (s' := (25, [(0, .ref 64)], [.int (0 : Int32), .ref 75], (I1, L1))) rfl ?_
  refine xe_sta (n := 2) (f := fx_J7_fill_53178) rfl (Nat.le_of_ble_eq_true rfl) (List.mem_of_getElem? (i := 0) rfl) (Nat.le_of_ble_eq_true rfl) c2 ?_
  refine xe_go 11 (s' := (48, [(0, .ref 64)], [], ((xu (xu (xu (xu I2 64 5 (1 : Int32)) 64 6 (0 : Int32)) 64 7 (0 : Int32)) 64 8 (0 : Int32)), L2))) rfl ?_
  exact xe_end rfl rfl rfl
def xi_X3_add : List (Nat × Nat × Instr) := [(0, 1, .aload_n 0), (1, 3, .getfield 27), (4, 2, .bipush 16), (6, 3, .if_icmp .ge 65), (9, 1, .aload_n 0), (10, 3, .getfield 9), (13, 1, .aload_n 0), (14, 3, .getfield 27), (17, 1, .iload_n 1), (18, 1, .iastore), (19, 1, .aload_n 0), (20, 3, .getfield 15), (23, 1, .aload_n 0), (24, 3, .getfield 27), (27, 1, .iload_n 2), (28, 1, .iastore), (29, 1, .aload_n 0), (30, 3, .getfield 18), (33, 1, .aload_n 0), (34, 3, .getfield 27), (37, 1, .iload_n 3), (38, 1, .iastore), (39, 1, .aload_n 0), (40, 3, .getfield 21), (43, 1, .aload_n 0), (44, 3, .getfield 27), (47, 2, .iload 4), (49, 1, .iastore), (50, 1, .aload_n 0), (51, 3, .getfield 24), (54, 1, .aload_n 0), (55, 3, .getfield 27), (58, 2, .iload 5), (60, 1, .iastore), (61, 1, .aload_n 0), (62, 1, .dup), (63, 3, .getfield 27), (66, 1, .iconst 1), (67, 1, .iadd), (68, 3, .putfield 27), (71, 1, .return_)]
def xg_X3_add : zf_ft := [(27, 1, 0, .inl (0, 0)), (9, 1, 1, .inl (0, 0)), (15, 1, 2, .inl (0, 0)), (18, 1, 3, .inl (0, 0)), (21, 1, 4, .inl (0, 0)), (24, 1, 5, .inl (0, 0))]
def xp_X3_add : zf_ft := [(27, 1, 0, .inl ((-2147483648), 2147483647))]
def xv_X3_add : List (Nat × Nat × xe_F) := []
def xt_X3_add : List (Nat × Nat × xe_F) := []
abbrev xr_X3_add := xe_run xGT xSC xRF 6 xg_X3_add xp_X3_add [] [] xv_X3_add xt_X3_add xi_X3_add
def fx_X3_add : xe_F := fun us hp v hp' => (us.map fun v => v.category).sum ≤ 6 ∧ xe_rt none v ∧ (∃ ar, us = ar ++ [.ref 66]) ∧ ∃ n, xr_X3_add n (0, xe_ag 0 us.reverse, [], hp) v hp'
theorem mk_X3_add {a1 : Int32} {a2 : Int32} {a3 : Int32} {a4 : Int32} {a5 : Int32} {hp hp' : xe_H} {v : Option Value} (hr : xe_rt none v) (h : ∃ n, xr_X3_add n (0, [(0, .ref 66), (1, .int a1), (2, .int a2), (3, .int a3), (4, .int a4), (5, .int a5)], [], hp) v hp') : fx_X3_add [.int a5, .int a4, .int a3, .int a2, .int a1, .ref 66] hp v hp' := ⟨Nat.le_of_ble_eq_true rfl, hr, ⟨[.int a5, .int a4, .int a3, .int a2, .int a1], rfl⟩, h⟩
theorem hx_X3_add : ∀ us hp v hp', fx_X3_add us hp v hp' → (us.map fun v => v.category).sum ≤ 6 ∧ xe_rt none v ∧ ∃ n, xr_X3_add n (0, xe_ag 0 us.reverse, [], hp) v hp' := fun us hp v hp' h => ⟨h.1, h.2.1, h.2.2.2⟩
theorem fr_X3_add : ∀ us hp v hp', fx_X3_add us hp v hp' → ∃ ar, us = ar ++ [.ref 66] := fun us hp v hp' h => h.2.2.1
set_option maxRecDepth 100000 in
set_option maxHeartbeats 4000000 in
theorem kx_X3_add (l : Launch) (D : va_G) (k : Nat → ClassId) (B0 : Nat) (ad : Nat → Nat) (al sw : Nat) : xe_Con l yX3_add (zw yX3_add cX3_add 6 none) ({ frames := 0, cells := 0, slots := 0, locals := 0 }) D k ad (zEx B0 ad al sw) xGT xSC xRF fx_X3_add := by
  have hEx := zEx_ok B0 ad al sw
  refine xe_mk (cc := cX3_add) (nL := 6) (ret := none) (fg := xg_X3_add) (fp := xp_X3_add) (sg := []) (lc := []) (cv := xv_X3_add) (cs := xt_X3_add) (ins := xi_X3_add) (by decide) rfl hEx (by decide +kernel) hx_X3_add ?_
  intro p e s m args below meth c Q Sg w0 A θ S hK hE hAB hA hth
  refine ⟨?_, ?_, ?_, ?_, ?_, ?_⟩
  · exact zf_ac ((fun H locs ws a q0 fs v rest pc ls hP he hv hdg kk => va_get (D := D) (ci := 1) (C := RX3) (T := TX3) (N := 6) (own := RX3) S.1 S.2.1 S.2.2.2.2 (zg_in inW_X3) S.2.2.2.1 hK hP q0 he rfl 0 (by decide) (S.2.2.2.2 (.fieldLink RX3 27 "RungMoney$Ladders" "size" "I") (List.mem_cons_of_mem _ zw_225)) (fun _ h9 => h9) hv hdg kk)) (zf_ac ((fun H locs ws a q0 fs v rest pc ls hP he hv hdg kk => va_get (D := D) (ci := 1) (C := RX3) (T := TX3) (N := 6) (own := RX3) S.1 S.2.1 S.2.2.2.2 (zg_in inW_X3) S.2.2.2.1 hK hP q0 he rfl 1 (by decide) (S.2.2.2.2 (.fieldLink RX3 9 "RungMoney$Ladders" "owners" "[I") (List.mem_cons_of_mem _ zw_231)) (fun _ h9 => h9) hv hdg kk)) (zf_ac ((fun H locs ws a q0 fs v rest pc ls hP he hv hdg kk => va_get (D := D) (ci := 1) (C := RX3) (T := TX3) (N := 6) (own := RX3) S.1 S.2.1 S.2.2.2.2 (zg_in inW_X3) S.2.2.2.1 hK hP q0 he rfl 2 (by decide) (S.2.2.2.2 (.fieldLink RX3 15 "RungMoney$Ladders" "lengths" "[I") (List.mem_cons_of_mem _ zw_232)) (fun _ h9 => h9) hv hdg kk)) (zf_ac ((fun H locs ws a q0 fs v rest pc ls hP he hv hdg kk => va_get (D := D) (ci := 1) (C := RX3) (T := TX3) (N := 6) (own := RX3) S.1 S.2.1 S.2.2.2.2 (zg_in inW_X3) S.2.2.2.1 hK hP q0 he rfl 3 (by decide) (S.2.2.2.2 (.fieldLink RX3 18 "RungMoney$Ladders" "sounds" "[I") (List.mem_cons_of_mem _ zw_233)) (fun _ h9 => h9) hv hdg kk)) (zf_ac ((fun H locs ws a q0 fs v rest pc ls hP he hv hdg kk => va_get (D := D) (ci := 1) (C := RX3) (T := TX3) (N := 6) (own := RX3) S.1 S.2.1 S.2.2.2.2 (zg_in inW_X3) S.2.2.2.1 hK hP q0 he rfl 4 (by decide) (S.2.2.2.2 (.fieldLink RX3 21 "RungMoney$Ladders" "paints" "[I") (List.mem_cons_of_mem _ zw_234)) (fun _ h9 => h9) hv hdg kk)) (zf_ac ((fun H locs ws a q0 fs v rest pc ls hP he hv hdg kk => va_get (D := D) (ci := 1) (C := RX3) (T := TX3) (N := 6) (own := RX3) S.1 S.2.1 S.2.2.2.2 (zg_in inW_X3) S.2.2.2.1 hK hP q0 he rfl 5 (by decide) (S.2.2.2.2 (.fieldLink RX3 24 "RungMoney$Ladders" "hands" "[I") (List.mem_cons_of_mem _ zw_235)) (fun _ h9 => h9) hv hdg kk)) zf_an)))))
  · exact zf_ac ((fun H locs ws a q0 fs v rest pc ls hP hD hS he hl hv hdg kk => by obtain ⟨x, rfl, h1, h2⟩ := hv; exact va_put (D := D) (ci := 1) (v := .int x) (ty := .int) (C := RX3) (T := TX3) (N := 6) (own := RX3) S.1 S.2.1 S.2.2.2.2 (zg_in inW_X3) tyX3 tyX3_ok nmX3 S.2.2.2.1 hK hP hD hS q0 he rfl 0 (by decide) (S.2.2.2.2 (.fieldLink RX3 27 "RungMoney$Ladders" "size" "I") (List.mem_cons_of_mem _ zw_225)) (fun _ h9 => h9) rfl (by decide +kernel) rfl rfl hl hdg kk)) zf_an
  · exact xe_n2
  · exact xe_n3
  · exact xe_n4
  · exact xe_n4
set_option maxRecDepth 100000 in
theorem pt_X3_add_0 {a1 a2 a3 a4 a5 : Int32} {I : Nat → Nat → Int32} {L : Nat → Nat → Int64} (h1 : (xe_cmp .ge (I 66 0) (16 : Int32)) = true) : ∃ n, xr_X3_add n (0, [(0, .ref 66), (1, .int a1), (2, .int a2), (3, .int a3), (4, .int a4), (5, .int a5)], [], (I, L)) none (I, L) := by
  refine xe_bT 3 (A := (71, [(0, .ref 66), (1, .int a1), (2, .int a2), (3, .int a3), (4, .int a4), (5, .int a5)], [], (I, L))) (B := (9, [(0, .ref 66), (1, .int a1), (2, .int a2), (3, .int a3), (4, .int a4), (5, .int a5)], [], (I, L))) h1 rfl ?_
  exact xe_end rfl rfl rfl
set_option maxRecDepth 100000 in
theorem pt_X3_add_1 {a1 a2 a3 a4 a5 : Int32} {I : Nat → Nat → Int32} {L : Nat → Nat → Int64} (h1 : (xe_cmp .ge (I 66 0) (16 : Int32)) = false) (h2 : xe_ib (I 66 0) 16 = true) (h3 : xe_ib (I 66 0) 16 = true) (h4 : xe_ib (I 66 0) 16 = true) (h5 : xe_ib (I 66 0) 16 = true) (h6 : xe_ib (I 66 0) 16 = true) : ∃ n, xr_X3_add n (0, [(0, .ref 66), (1, .int a1), (2, .int a2), (3, .int a3), (4, .int a4), (5, .int a5)], [], (I, L)) none ((xu (xu (xu (xu (xu (xu I 67 (((I 66 0)).toInt.toNat) a1) 68 (((I 66 0)).toInt.toNat) a2) 69 (((I 66 0)).toInt.toNat) a3) 70 (((I 66 0)).toInt.toNat) a4) 71 (((I 66 0)).toInt.toNat) a5) 66 0 ((I 66 0) + (1 : Int32))), L) := by
  refine xe_bF 3 (A := (71, [(0, .ref 66), (1, .int a1), (2, .int a2), (3, .int a3), (4, .int a4), (5, .int a5)], [], (I, L))) (B := (9, [(0, .ref 66), (1, .int a1), (2, .int a2), (3, .int a3), (4, .int a4), (5, .int a5)], [], (I, L))) h1 rfl ?_
  refine xe_ar 5 (A := (19, [(0, .ref 66), (1, .int a1), (2, .int a2), (3, .int a3), (4, .int a4), (5, .int a5)], [], ((xu I 67 (((I 66 0)).toInt.toNat) a1), L))) h2 rfl ?_
  refine xe_ar 5 (A := (29, [(0, .ref 66), (1, .int a1), (2, .int a2), (3, .int a3), (4, .int a4), (5, .int a5)], [], ((xu (xu I 67 (((I 66 0)).toInt.toNat) a1) 68 (((I 66 0)).toInt.toNat) a2), L))) h3 rfl ?_
  refine xe_ar 5 (A := (39, [(0, .ref 66), (1, .int a1), (2, .int a2), (3, .int a3), (4, .int a4), (5, .int a5)], [], ((xu (xu (xu I 67 (((I 66 0)).toInt.toNat) a1) 68 (((I 66 0)).toInt.toNat) a2) 69 (((I 66 0)).toInt.toNat) a3), L))) h4 rfl ?_
  refine xe_ar 5 (A := (50, [(0, .ref 66), (1, .int a1), (2, .int a2), (3, .int a3), (4, .int a4), (5, .int a5)], [], ((xu (xu (xu (xu I 67 (((I 66 0)).toInt.toNat) a1) 68 (((I 66 0)).toInt.toNat) a2) 69 (((I 66 0)).toInt.toNat) a3) 70 (((I 66 0)).toInt.toNat) a4), L))) h5 rfl ?_
  refine xe_ar 5 (A := (61, [(0, .ref 66), (1, .int a1), (2, .int a2), (3, .int a3), (4, .int a4), (5, .int a5)], [], ((xu (xu (xu (xu (xu I 67 (((I 66 0)).toInt.toNat) a1) 68 (((I 66 0)).toInt.toNat) a2) 69 (((I 66 0)).toInt.toNat) a3) 70 (((I 66 0)).toInt.toNat) a4) 71 (((I 66 0)).toInt.toNat) a5), L))) h6 rfl ?_
  refine xe_go 5 (s' := (71, [(0, .ref 66), (1, .int a1), (2, .int a2), (3, .int a3), (4, .int a4), (5, .int a5)], [], ((xu (xu (xu (xu (xu (xu I 67 (((I 66 0)).toInt.toNat) a1) 68 (((I 66 0)).toInt.toNat) a2) 69 (((I 66 0)).toInt.toNat) a3) 70 (((I 66 0)).toInt.toNat) a4) 71 (((I 66 0)).toInt.toNat) a5) 66 0 ((I 66 0) + (1 : Int32))), L))) rfl ?_
  exact xe_end rfl rfl rfl
def xi_X11_readMan : List (Nat × Nat × Instr) := [(0, 1, .aload_n 1), (1, 3, .getfield 82), (4, 2, .bipush 6), (6, 3, .if_icmp .lt 12), (9, 1, .aload_n 0), (10, 3, .getfield 9), (13, 1, .iconst 4), (14, 3, .invokevirtual 79), (17, 1, .ireturn), (18, 1, .aload_n 0), (19, 3, .getfield 9), (22, 3, .invokevirtual 85), (25, 1, .aload_n 0), (26, 3, .getfield 9), (29, 3, .getfield 37), (32, 1, .iconst 1), (33, 3, .if_icmp .ne 16), (36, 1, .aload_n 0), (37, 3, .getfield 9), (40, 3, .invokevirtual 48), (43, 3, .getstatic 88), (46, 3, .if_acmp .eq 12), (49, 1, .aload_n 0), (50, 3, .getfield 9), (53, 1, .iconst 1), (54, 3, .invokevirtual 79), (57, 1, .ireturn), (58, 1, .aload_n 0), (59, 3, .getfield 9), (62, 3, .invokevirtual 91), (65, 2, .bipush 7), (67, 3, .if_icmp .gt 18), (70, 1, .aload_n 1), (71, 1, .aload_n 0), (72, 3, .getfield 9), (75, 3, .getfield 95), (78, 3, .invokevirtual 99), (81, 1, .iconst (-1)), (82, 3, .if_icmp .eq 12), (85, 1, .aload_n 0), (86, 3, .getfield 9), (89, 1, .iconst 3), (90, 3, .invokevirtual 79), (93, 1, .ireturn), (94, 1, .aload_n 1), (95, 1, .aload_n 0), (96, 3, .getfield 9), (99, 3, .getfield 95), (102, 3, .invokevirtual 103), (105, 1, .aload_n 0), (106, 3, .getfield 9), (109, 3, .invokevirtual 85), (112, 1, .iconst 1), (113, 1, .ireturn)]
def xg_X11_readMan : zf_ft := [(82, 8, 0, .inl (0, 0)), (9, 9, 0, .inl (0, 0)), (37, 5, 4, .inl (0, 0)), (95, 5, 5, .inl (0, 0))]
def xp_X11_readMan : zf_ft := []
def xv_X11_readMan : List (Nat × Nat × xe_F) := [(79, 2, fx_X7_fail), (85, 1, fx_X7_step), (48, 1, fx_X7_key), (91, 1, fx_X7_length), (99, 2, fx_X10_manNamed), (103, 2, fx_X10_addMan)]
def xt_X11_readMan : List (Nat × Nat × xe_F) := []
abbrev xr_X11_readMan := xe_run xGT xSC xRF 2 xg_X11_readMan xp_X11_readMan [(88, 200)] [] xv_X11_readMan xt_X11_readMan xi_X11_readMan
def fx_X11_readMan : xe_F := fun us hp v hp' => (us.map fun v => v.category).sum ≤ 2 ∧ xe_rt (some .boolean) v ∧ (∃ ar, us = ar ++ [.ref 4]) ∧ ∃ n, xr_X11_readMan n (0, xe_ag 0 us.reverse, [], hp) v hp'
theorem mk_X11_readMan  {hp hp' : xe_H} {v : Option Value} (hr : xe_rt (some .boolean) v) (h : ∃ n, xr_X11_readMan n (0, [(0, .ref 4), (1, .ref 64)], [], hp) v hp') : fx_X11_readMan [.ref 64, .ref 4] hp v hp' := ⟨Nat.le_of_ble_eq_true rfl, hr, ⟨[.ref 64], rfl⟩, h⟩
theorem hx_X11_readMan : ∀ us hp v hp', fx_X11_readMan us hp v hp' → (us.map fun v => v.category).sum ≤ 2 ∧ xe_rt (some .boolean) v ∧ ∃ n, xr_X11_readMan n (0, xe_ag 0 us.reverse, [], hp) v hp' := fun us hp v hp' h => ⟨h.1, h.2.1, h.2.2.2⟩
theorem fr_X11_readMan : ∀ us hp v hp', fx_X11_readMan us hp v hp' → ∃ ar, us = ar ++ [.ref 4] := fun us hp v hp' h => h.2.2.1
set_option maxRecDepth 100000 in
set_option maxHeartbeats 4000000 in
theorem kx_X11_readMan (l : Launch) (D : va_G) (k : Nat → ClassId) (B0 : Nat) (ad : Nat → Nat) (al sw : Nat) : xe_Con l yX11_readMan (zw yX11_readMan cX11_readMan 2 (some .boolean)) ({ frames := 2, cells := 0, slots := 0, locals := 44 }) D k ad (zEx B0 ad al sw) xGT xSC xRF fx_X11_readMan := by
  have hEx := zEx_ok B0 ad al sw
  refine xe_mk (cc := cX11_readMan) (nL := 2) (ret := (some .boolean)) (fg := xg_X11_readMan) (fp := xp_X11_readMan) (sg := [(88, 200)]) (lc := []) (cv := xv_X11_readMan) (cs := xt_X11_readMan) (ins := xi_X11_readMan) (by decide) rfl hEx (by decide +kernel) hx_X11_readMan ?_
  intro p e s m args below meth c Q Sg w0 A θ S hK hE hAB hA hth
  refine ⟨?_, ?_, ?_, ?_, ?_, ?_⟩
  · exact zf_ac ((fun H locs ws a q0 fs v rest pc ls hP he hv hdg kk => va_get (D := D) (ci := 8) (C := RX10) (T := TX10) (N := 9) (own := RX11) S.1 S.2.1 S.2.2.2.2 (zg_in inW_X10) S.2.2.2.1 hK hP q0 he rfl 0 (by decide) (S.2.2.2.2 (.fieldLink RX11 82 "RungMoney$Town" "men" "I") (List.mem_cons_of_mem _ zw_264)) (fun _ h9 => h9) hv hdg kk)) (zf_ac ((fun H locs ws a q0 fs v rest pc ls hP he hv hdg kk => va_get (D := D) (ci := 9) (C := RX11) (T := TX11) (N := 4) (own := RX11) S.1 S.2.1 S.2.2.2.2 (zg_in inW_X11) S.2.2.2.1 hK hP q0 he rfl 0 (by decide) (S.2.2.2.2 (.fieldLink RX11 9 "RungMoney$TownReader" "reader" "LRungMoney$Reader;") (List.mem_cons_of_mem _ zw_199)) (fun _ h9 => h9) hv hdg kk)) (zf_ac ((fun H locs ws a q0 fs v rest pc ls hP he hv hdg kk => va_get (D := D) (ci := 5) (C := RX7) (T := TX7) (N := 11) (own := RX11) S.1 S.2.1 S.2.2.2.2 (zg_in inW_X7) S.2.2.2.1 hK hP q0 he rfl 4 (by decide) (S.2.2.2.2 (.fieldLink RX11 37 "RungMoney$Reader" "kind" "I") (List.mem_cons_of_mem _ zw_155)) (fun _ h9 => h9) hv hdg kk)) (zf_ac ((fun H locs ws a q0 fs v rest pc ls hP he hv hdg kk => va_get (D := D) (ci := 5) (C := RX7) (T := TX7) (N := 11) (own := RX11) S.1 S.2.1 S.2.2.2.2 (zg_in inW_X7) S.2.2.2.1 hK hP q0 he rfl 5 (by decide) (S.2.2.2.2 (.fieldLink RX11 95 "RungMoney$Reader" "word" "J") (List.mem_cons_of_mem _ zw_159)) (fun _ h9 => h9) hv hdg kk)) zf_an)))
  · exact zf_an
  · exact xe_a2 ((fun H locs rest pc ls hS hdg kk => va_gets (C := RX2) (n := "OTHER") (d := zkD) (v := .ref (θ 200)) S.1 S.2.1 (by rw [(hth.2 0 (by decide)).1]; exact (hE.2.2.2.1.1 0 (by decide)).1.narrow hAB) hS S.2.2.2.1 (S.2.2.2.2 (.fieldLink RX11 88 "RungMoney$Key" "OTHER" "LRungMoney$Key;") (List.mem_cons_of_mem _ zw_530)) (fun _ h9 => h9) hdg (kk (by show Sg (θ 200) = some 128; rw [(hth.2 0 (by decide)).1]; exact (hth.2 0 (by decide)).2)))) xe_n2
  · exact xe_n3
  · exact xe_a4 (xe_crV S hEx hE hAB hA hK hth (kx_X7_fail l D k B0 ad al sw) (cwV 1 S.2.2.2.2 (zg_V zw_525 zw_526 zw_527 zw_97 zw_528) rfl rfl rfl (by decide +kernel) ⟨(Nat.le_of_ble_eq_true rfl), (Nat.le_of_ble_eq_true rfl)⟩) ⟨(Nat.le_of_ble_eq_true rfl), (Nat.le_of_ble_eq_true rfl)⟩ 5 rfl rfl 3 (by decide +kernel) fr_X7_fail) (xe_a4 (xe_crV S hEx hE hAB hA hK hth (kx_X7_step l D k B0 ad al sw) (cwV 0 S.2.2.2.2 (zg_V zw_529 zw_494 zw_495 zw_97 zw_496) rfl rfl rfl (by decide +kernel) ⟨(Nat.le_of_ble_eq_true rfl), (Nat.le_of_ble_eq_true rfl)⟩) ⟨(Nat.le_of_ble_eq_true rfl), (Nat.le_of_ble_eq_true rfl)⟩ 5 rfl rfl 3 (by decide +kernel) fr_X7_step) (xe_a4 (xe_crV S hEx hE hAB hA hK hth (kx_X7_key l D k B0 ad al sw) (cwV 0 S.2.2.2.2 (zg_V zw_509 zw_510 zw_511 zw_97 zw_512) rfl rfl rfl (by decide +kernel) ⟨(Nat.le_of_ble_eq_true rfl), (Nat.le_of_ble_eq_true rfl)⟩) ⟨(Nat.le_of_ble_eq_true rfl), (Nat.le_of_ble_eq_true rfl)⟩ 5 rfl rfl 3 (by decide +kernel) fr_X7_key) (xe_a4 (xe_crV S hEx hE hAB hA hK hth (kx_X7_length l D k B0 ad al sw) (cwV 0 S.2.2.2.2 (zg_V zw_531 zw_532 zw_533 zw_97 zw_534) rfl rfl rfl (by decide +kernel) ⟨(Nat.le_of_ble_eq_true rfl), (Nat.le_of_ble_eq_true rfl)⟩) ⟨(Nat.le_of_ble_eq_true rfl), (Nat.le_of_ble_eq_true rfl)⟩ 5 rfl rfl 3 (by decide +kernel) fr_X7_length) (xe_a4 (xe_crV S hEx hE hAB hA hK hth (kx_X10_manNamed l D k B0 ad al sw) (cwV 1 S.2.2.2.2 (zg_V zw_535 zw_536 zw_537 zw_99 zw_538) rfl rfl rfl (by decide +kernel) ⟨(Nat.le_of_ble_eq_true rfl), (Nat.le_of_ble_eq_true rfl)⟩) ⟨(Nat.le_of_ble_eq_true rfl), (Nat.le_of_ble_eq_true rfl)⟩ 8 rfl rfl 64 (by decide +kernel) fr_X10_manNamed) (xe_a4 (xe_crV S hEx hE hAB hA hK hth (kx_X10_addMan l D k B0 ad al sw) (cwV 1 S.2.2.2.2 (zg_V zw_539 zw_540 zw_541 zw_99 zw_542) rfl rfl rfl (by decide +kernel) ⟨(Nat.le_of_ble_eq_true rfl), (Nat.le_of_ble_eq_true rfl)⟩) ⟨(Nat.le_of_ble_eq_true rfl), (Nat.le_of_ble_eq_true rfl)⟩ 8 rfl rfl 64 (by decide +kernel) fr_X10_addMan) xe_n4)))))
  · exact xe_n4
set_option maxRecDepth 100000 in
theorem pt_X11_readMan_0 {I I1 I2 : Nat → Nat → Int32} {L L1 L2 : Nat → Nat → Int64} (h1 : (xe_cmp .lt (I 64 0) (6 : Int32)) = true) (c1 : fx_X7_step [.ref 3] (I, L) none (I1, L1)) (h2 : (xe_cmp .ne (I1 3 4) (1 : Int32)) = true) (c2 : fx_X7_fail [.int (1 : Int32), .ref 3] (I1, L1) (some (.int 0)) (I2, L2)) : ∃ n, xr_X11_readMan n (0, [(0, .ref 4), (1, .ref 64)], [], (I, L)) (some (.int 0)) (I2, L2) := by
  refine xe_bT 3 (A := (18, [(0, .ref 4), (1, .ref 64)], [], (I, L))) (B := (9, [(0, .ref 4), (1, .ref 64)], [], (I, L))) h1 rfl ?_
  refine xe_go 1 (s' := (22, [(0, .ref 4), (1, .ref 64)], [.ref 3], (I, L))) rfl ?_
  refine xe_vir (n := 1) (f := fx_X7_step) rfl (Nat.le_of_ble_eq_true rfl) (List.mem_of_getElem? (i := 1) rfl) (Nat.le_of_ble_eq_true rfl) c1 ?_
  refine xe_bT 4 (A := (49, [(0, .ref 4), (1, .ref 64)], [], (I1, L1))) (B := (36, [(0, .ref 4), (1, .ref 64)], [], (I1, L1))) h2 rfl ?_
  refine xe_go 2 (s' := (54, [(0, .ref 4), (1, .ref 64)], [.int (1 : Int32), .ref 3], (I1, L1))) rfl ?_
  refine xe_vir (n := 2) (f := fx_X7_fail) rfl (Nat.le_of_ble_eq_true rfl) (List.mem_of_getElem? (i := 0) rfl) (Nat.le_of_ble_eq_true rfl) c2 ?_
  exact xe_end rfl rfl rfl
set_option maxRecDepth 100000 in
theorem pt_X11_readMan_1 {I I1 I2 I3 I4 : Nat → Nat → Int32} {L L1 L2 L3 L4 : Nat → Nat → Int64} {k2 : Nat} {r3 : Int32} (h1 : (xe_cmp .lt (I 64 0) (6 : Int32)) = true) (c1 : fx_X7_step [.ref 3] (I, L) none (I1, L1)) (h2 : (xe_cmp .ne (I1 3 4) (1 : Int32)) = false) (c2 : fx_X7_key [.ref 3] (I1, L1) (some (.ref k2)) (I2, L2)) (h3 : (Nat.beq k2 200) = true) (c3 : fx_X7_length [.ref 3] (I2, L2) (some (.int r3)) (I3, L3)) (h4 : (xe_cmp .gt r3 (7 : Int32)) = true) (c4 : fx_X7_fail [.int (3 : Int32), .ref 3] (I3, L3) (some (.int 0)) (I4, L4)) : ∃ n, xr_X11_readMan n (0, [(0, .ref 4), (1, .ref 64)], [], (I, L)) (some (.int 0)) (I4, L4) := by
  refine xe_bT 3 (A := (18, [(0, .ref 4), (1, .ref 64)], [], (I, L))) (B := (9, [(0, .ref 4), (1, .ref 64)], [], (I, L))) h1 rfl ?_
  refine xe_go 1 (s' := (22, [(0, .ref 4), (1, .ref 64)], [.ref 3], (I, L))) rfl ?_
  refine xe_vir (n := 1) (f := fx_X7_step) rfl (Nat.le_of_ble_eq_true rfl) (List.mem_of_getElem? (i := 1) rfl) (Nat.le_of_ble_eq_true rfl) c1 ?_
  refine xe_bF 4 (A := (49, [(0, .ref 4), (1, .ref 64)], [], (I1, L1))) (B := (36, [(0, .ref 4), (1, .ref 64)], [], (I1, L1))) h2 rfl ?_
  refine xe_go 1 (s' := (40, [(0, .ref 4), (1, .ref 64)], [.ref 3], (I1, L1))) rfl ?_
  refine xe_vir (n := 1) (f := fx_X7_key) rfl (Nat.le_of_ble_eq_true rfl) (List.mem_of_getElem? (i := 2) rfl) (Nat.le_of_ble_eq_true rfl) c2 ?_
  refine xe_bT 1 (A := (58, [(0, .ref 4), (1, .ref 64)], [], (I2, L2))) (B := (49, [(0, .ref 4), (1, .ref 64)], [], (I2, L2))) h3 rfl ?_
  refine xe_go 1 (s' := (62, [(0, .ref 4), (1, .ref 64)], [.ref 3], (I2, L2))) rfl ?_
  refine xe_vir (n := 1) (f := fx_X7_length) rfl (Nat.le_of_ble_eq_true rfl) (List.mem_of_getElem? (i := 3) rfl) (Nat.le_of_ble_eq_true rfl) c3 ?_
  refine xe_bT 1 (A := (85, [(0, .ref 4), (1, .ref 64)], [], (I3, L3))) (B := (70, [(0, .ref 4), (1, .ref 64)], [], (I3, L3))) h4 rfl ?_
  refine xe_go 2 (s' := (90, [(0, .ref 4), (1, .ref 64)], [.int (3 : Int32), .ref 3], (I3, L3))) rfl ?_
  refine xe_vir (n := 2) (f := fx_X7_fail) rfl (Nat.le_of_ble_eq_true rfl) (List.mem_of_getElem? (i := 0) rfl) (Nat.le_of_ble_eq_true rfl) c4 ?_
  exact xe_end rfl rfl rfl
set_option maxRecDepth 100000 in
theorem pt_X11_readMan_2 {I I1 I2 I3 I4 I5 I6 : Nat → Nat → Int32} {L L1 L2 L3 L4 L5 L6 : Nat → Nat → Int64} {k2 : Nat} {r3 r4 : Int32} (h1 : (xe_cmp .lt (I 64 0) (6 : Int32)) = true) (c1 : fx_X7_step [.ref 3] (I, L) none (I1, L1)) (h2 : (xe_cmp .ne (I1 3 4) (1 : Int32)) = false) (c2 : fx_X7_key [.ref 3] (I1, L1) (some (.ref k2)) (I2, L2)) (h3 : (Nat.beq k2 200) = true) (c3 : fx_X7_length [.ref 3] (I2, L2) (some (.int r3)) (I3, L3)) (h4 : (xe_cmp .gt r3 (7 : Int32)) = false) (c4 : fx_X10_manNamed [.long (L3 3 5), .ref 64] (I3, L3) (some (.int r4)) (I4, L4)) (h5 : (xe_cmp .eq r4 (Int32.ofInt (-1))) = true) (c5 : fx_X10_addMan [.long (L4 3 5), .ref 64] (I4, L4) none (I5, L5)) (c6 : fx_X7_step [.ref 3] (I5, L5) none (I6, L6)) : ∃ n, xr_X11_readMan n (0, [(0, .ref 4), (1, .ref 64)], [], (I, L)) (some (.int (1 : Int32))) (I6, L6) := by
  refine xe_bT 3 (A := (18, [(0, .ref 4), (1, .ref 64)], [], (I, L))) (B := (9, [(0, .ref 4), (1, .ref 64)], [], (I, L))) h1 rfl ?_
  refine xe_go 1 (s' := (22, [(0, .ref 4), (1, .ref 64)], [.ref 3], (I, L))) rfl ?_
  refine xe_vir (n := 1) (f := fx_X7_step) rfl (Nat.le_of_ble_eq_true rfl) (List.mem_of_getElem? (i := 1) rfl) (Nat.le_of_ble_eq_true rfl) c1 ?_
  refine xe_bF 4 (A := (49, [(0, .ref 4), (1, .ref 64)], [], (I1, L1))) (B := (36, [(0, .ref 4), (1, .ref 64)], [], (I1, L1))) h2 rfl ?_
  refine xe_go 1 (s' := (40, [(0, .ref 4), (1, .ref 64)], [.ref 3], (I1, L1))) rfl ?_
  refine xe_vir (n := 1) (f := fx_X7_key) rfl (Nat.le_of_ble_eq_true rfl) (List.mem_of_getElem? (i := 2) rfl) (Nat.le_of_ble_eq_true rfl) c2 ?_
  refine xe_bT 1 (A := (58, [(0, .ref 4), (1, .ref 64)], [], (I2, L2))) (B := (49, [(0, .ref 4), (1, .ref 64)], [], (I2, L2))) h3 rfl ?_
  refine xe_go 1 (s' := (62, [(0, .ref 4), (1, .ref 64)], [.ref 3], (I2, L2))) rfl ?_
  refine xe_vir (n := 1) (f := fx_X7_length) rfl (Nat.le_of_ble_eq_true rfl) (List.mem_of_getElem? (i := 3) rfl) (Nat.le_of_ble_eq_true rfl) c3 ?_
  refine xe_bF 1 (A := (85, [(0, .ref 4), (1, .ref 64)], [], (I3, L3))) (B := (70, [(0, .ref 4), (1, .ref 64)], [], (I3, L3))) h4 rfl ?_
  refine xe_go 3 (s' := (78, [(0, .ref 4), (1, .ref 64)], [.long (L3 3 5), .ref 64], (I3, L3))) rfl ?_
  refine xe_vir (n := 2) (f := fx_X10_manNamed) rfl (Nat.le_of_ble_eq_true rfl) (List.mem_of_getElem? (i := 4) rfl) (Nat.le_of_ble_eq_true rfl) c4 ?_
  refine xe_bT 1 (A := (94, [(0, .ref 4), (1, .ref 64)], [], (I4, L4))) (B := (85, [(0, .ref 4), (1, .ref 64)], [], (I4, L4))) h5 rfl ?_
  refine xe_go 3 (s' := (102, [(0, .ref 4), (1, .ref 64)], [.long (L4 3 5), .ref 64], (I4, L4))) rfl ?_
  refine xe_vir (n := 2) (f := fx_X10_addMan) rfl (Nat.le_of_ble_eq_true rfl) (List.mem_of_getElem? (i := 5) rfl) (Nat.le_of_ble_eq_true rfl) c5 ?_
  refine xe_go 1 (s' := (109, [(0, .ref 4), (1, .ref 64)], [.ref 3], (I5, L5))) rfl ?_
  refine xe_vir (n := 1) (f := fx_X7_step) rfl (Nat.le_of_ble_eq_true rfl) (List.mem_of_getElem? (i := 1) rfl) (Nat.le_of_ble_eq_true rfl) c6 ?_
  refine xe_go 0 (s' := (113, [(0, .ref 4), (1, .ref 64)], [.int (1 : Int32)], (I6, L6))) rfl ?_
  exact xe_end rfl rfl rfl
set_option maxRecDepth 100000 in
theorem pt_X11_readMan_3 {I I1 I2 I3 I4 I5 : Nat → Nat → Int32} {L L1 L2 L3 L4 L5 : Nat → Nat → Int64} {k2 : Nat} {r3 r4 : Int32} (h1 : (xe_cmp .lt (I 64 0) (6 : Int32)) = true) (c1 : fx_X7_step [.ref 3] (I, L) none (I1, L1)) (h2 : (xe_cmp .ne (I1 3 4) (1 : Int32)) = false) (c2 : fx_X7_key [.ref 3] (I1, L1) (some (.ref k2)) (I2, L2)) (h3 : (Nat.beq k2 200) = true) (c3 : fx_X7_length [.ref 3] (I2, L2) (some (.int r3)) (I3, L3)) (h4 : (xe_cmp .gt r3 (7 : Int32)) = false) (c4 : fx_X10_manNamed [.long (L3 3 5), .ref 64] (I3, L3) (some (.int r4)) (I4, L4)) (h5 : (xe_cmp .eq r4 (Int32.ofInt (-1))) = false) (c5 : fx_X7_fail [.int (3 : Int32), .ref 3] (I4, L4) (some (.int 0)) (I5, L5)) : ∃ n, xr_X11_readMan n (0, [(0, .ref 4), (1, .ref 64)], [], (I, L)) (some (.int 0)) (I5, L5) := by
  refine xe_bT 3 (A := (18, [(0, .ref 4), (1, .ref 64)], [], (I, L))) (B := (9, [(0, .ref 4), (1, .ref 64)], [], (I, L))) h1 rfl ?_
  refine xe_go 1 (s' := (22, [(0, .ref 4), (1, .ref 64)], [.ref 3], (I, L))) rfl ?_
  refine xe_vir (n := 1) (f := fx_X7_step) rfl (Nat.le_of_ble_eq_true rfl) (List.mem_of_getElem? (i := 1) rfl) (Nat.le_of_ble_eq_true rfl) c1 ?_
  refine xe_bF 4 (A := (49, [(0, .ref 4), (1, .ref 64)], [], (I1, L1))) (B := (36, [(0, .ref 4), (1, .ref 64)], [], (I1, L1))) h2 rfl ?_
  refine xe_go 1 (s' := (40, [(0, .ref 4), (1, .ref 64)], [.ref 3], (I1, L1))) rfl ?_
  refine xe_vir (n := 1) (f := fx_X7_key) rfl (Nat.le_of_ble_eq_true rfl) (List.mem_of_getElem? (i := 2) rfl) (Nat.le_of_ble_eq_true rfl) c2 ?_
  refine xe_bT 1 (A := (58, [(0, .ref 4), (1, .ref 64)], [], (I2, L2))) (B := (49, [(0, .ref 4), (1, .ref 64)], [], (I2, L2))) h3 rfl ?_
  refine xe_go 1 (s' := (62, [(0, .ref 4), (1, .ref 64)], [.ref 3], (I2, L2))) rfl ?_
  refine xe_vir (n := 1) (f := fx_X7_length) rfl (Nat.le_of_ble_eq_true rfl) (List.mem_of_getElem? (i := 3) rfl) (Nat.le_of_ble_eq_true rfl) c3 ?_
  refine xe_bF 1 (A := (85, [(0, .ref 4), (1, .ref 64)], [], (I3, L3))) (B := (70, [(0, .ref 4), (1, .ref 64)], [], (I3, L3))) h4 rfl ?_
  refine xe_go 3 (s' := (78, [(0, .ref 4), (1, .ref 64)], [.long (L3 3 5), .ref 64], (I3, L3))) rfl ?_
  refine xe_vir (n := 2) (f := fx_X10_manNamed) rfl (Nat.le_of_ble_eq_true rfl) (List.mem_of_getElem? (i := 4) rfl) (Nat.le_of_ble_eq_true rfl) c4 ?_
  refine xe_bF 1 (A := (94, [(0, .ref 4), (1, .ref 64)], [], (I4, L4))) (B := (85, [(0, .ref 4), (1, .ref 64)], [], (I4, L4))) h5 rfl ?_
  refine xe_go 2 (s' := (90, [(0, .ref 4), (1, .ref 64)], [.int (3 : Int32), .ref 3], (I4, L4))) rfl ?_
  refine xe_vir (n := 2) (f := fx_X7_fail) rfl (Nat.le_of_ble_eq_true rfl) (List.mem_of_getElem? (i := 0) rfl) (Nat.le_of_ble_eq_true rfl) c5 ?_
  exact xe_end rfl rfl rfl
set_option maxRecDepth 100000 in
theorem pt_X11_readMan_4 {I I1 I2 I3 : Nat → Nat → Int32} {L L1 L2 L3 : Nat → Nat → Int64} {k2 : Nat} (h1 : (xe_cmp .lt (I 64 0) (6 : Int32)) = true) (c1 : fx_X7_step [.ref 3] (I, L) none (I1, L1)) (h2 : (xe_cmp .ne (I1 3 4) (1 : Int32)) = false) (c2 : fx_X7_key [.ref 3] (I1, L1) (some (.ref k2)) (I2, L2)) (h3 : (Nat.beq k2 200) = false) (c3 : fx_X7_fail [.int (1 : Int32), .ref 3] (I2, L2) (some (.int 0)) (I3, L3)) : ∃ n, xr_X11_readMan n (0, [(0, .ref 4), (1, .ref 64)], [], (I, L)) (some (.int 0)) (I3, L3) := by
  refine xe_bT 3 (A := (18, [(0, .ref 4), (1, .ref 64)], [], (I, L))) (B := (9, [(0, .ref 4), (1, .ref 64)], [], (I, L))) h1 rfl ?_
  refine xe_go 1 (s' := (22, [(0, .ref 4), (1, .ref 64)], [.ref 3], (I, L))) rfl ?_
  refine xe_vir (n := 1) (f := fx_X7_step) rfl (Nat.le_of_ble_eq_true rfl) (List.mem_of_getElem? (i := 1) rfl) (Nat.le_of_ble_eq_true rfl) c1 ?_
  refine xe_bF 4 (A := (49, [(0, .ref 4), (1, .ref 64)], [], (I1, L1))) (B := (36, [(0, .ref 4), (1, .ref 64)], [], (I1, L1))) h2 rfl ?_
  refine xe_go 1 (s' := (40, [(0, .ref 4), (1, .ref 64)], [.ref 3], (I1, L1))) rfl ?_
  refine xe_vir (n := 1) (f := fx_X7_key) rfl (Nat.le_of_ble_eq_true rfl) (List.mem_of_getElem? (i := 2) rfl) (Nat.le_of_ble_eq_true rfl) c2 ?_
  refine xe_bF 1 (A := (58, [(0, .ref 4), (1, .ref 64)], [], (I2, L2))) (B := (49, [(0, .ref 4), (1, .ref 64)], [], (I2, L2))) h3 rfl ?_
  refine xe_go 2 (s' := (54, [(0, .ref 4), (1, .ref 64)], [.int (1 : Int32), .ref 3], (I2, L2))) rfl ?_
  refine xe_vir (n := 2) (f := fx_X7_fail) rfl (Nat.le_of_ble_eq_true rfl) (List.mem_of_getElem? (i := 0) rfl) (Nat.le_of_ble_eq_true rfl) c3 ?_
  exact xe_end rfl rfl rfl
set_option maxRecDepth 100000 in
theorem pt_X11_readMan_5 {I I1 : Nat → Nat → Int32} {L L1 : Nat → Nat → Int64} (h1 : (xe_cmp .lt (I 64 0) (6 : Int32)) = false) (c1 : fx_X7_fail [.int (4 : Int32), .ref 3] (I, L) (some (.int 0)) (I1, L1)) : ∃ n, xr_X11_readMan n (0, [(0, .ref 4), (1, .ref 64)], [], (I, L)) (some (.int 0)) (I1, L1) := by
  refine xe_bF 3 (A := (18, [(0, .ref 4), (1, .ref 64)], [], (I, L))) (B := (9, [(0, .ref 4), (1, .ref 64)], [], (I, L))) h1 rfl ?_
  refine xe_go 2 (s' := (14, [(0, .ref 4), (1, .ref 64)], [.int (4 : Int32), .ref 3], (I, L))) rfl ?_
  refine xe_vir (n := 2) (f := fx_X7_fail) rfl (Nat.le_of_ble_eq_true rfl) (List.mem_of_getElem? (i := 0) rfl) (Nat.le_of_ble_eq_true rfl) c1 ?_
  exact xe_end rfl rfl rfl
def xi_X11_readRungs : List (Nat × Nat × Instr) := [(0, 1, .aload_n 0), (1, 3, .getfield 9), (4, 3, .getfield 37), (7, 1, .iconst 1), (8, 3, .if_icmp .eq 12), (11, 1, .aload_n 0), (12, 3, .getfield 9), (15, 1, .iconst 1), (16, 3, .invokevirtual 79), (19, 1, .ireturn), (20, 1, .iconst 0), (21, 1, .istore_n 3), (22, 1, .iconst 0), (23, 2, .istore 4), (25, 1, .iconst 0), (26, 2, .istore 5), (28, 2, .iload 5), (30, 1, .aload_n 0), (31, 3, .getfield 9), (34, 3, .invokevirtual 91), (37, 3, .if_icmp .ge 72), (40, 1, .aload_n 0), (41, 3, .getfield 9), (44, 2, .iload 5), (46, 3, .invokevirtual 126), (49, 2, .istore 6), (51, 2, .iload 6), (53, 2, .bipush 115), (55, 3, .if_icmp .ne 13), (58, 1, .iload_n 3), (59, 1, .iconst 1), (60, 2, .iload 5), (62, 1, .ishl), (63, 1, .ior), (64, 1, .istore_n 3), (65, 3, .goto 38), (68, 2, .iload 6), (70, 2, .bipush 112), (72, 3, .if_icmp .ne 15), (75, 2, .iload 4), (77, 1, .iconst 1), (78, 2, .iload 5), (80, 1, .ishl), (81, 1, .ior), (82, 2, .istore 4), (84, 3, .goto 19), (87, 2, .iload 6), (89, 2, .bipush 114), (91, 3, .if_icmp .eq 12), (94, 1, .aload_n 0), (95, 3, .getfield 9), (98, 1, .iconst 3), (99, 3, .invokevirtual 79), (102, 1, .ireturn), (103, 3, .iinc 5 1), (106, 3, .goto (-78)), (109, 1, .aload_n 1), (110, 1, .iload_n 2), (111, 1, .aload_n 0), (112, 3, .getfield 9), (115, 3, .invokevirtual 91), (118, 1, .iload_n 3), (119, 2, .iload 4), (121, 1, .iconst 1), (122, 1, .iload_n 2), (123, 1, .ishl), (124, 3, .invokevirtual 130), (127, 1, .aload_n 0), (128, 3, .getfield 9), (131, 3, .invokevirtual 85), (134, 1, .iconst 1), (135, 1, .ireturn)]
def xg_X11_readRungs : zf_ft := [(9, 9, 0, .inl (0, 0)), (37, 5, 4, .inl (0, 0))]
def xp_X11_readRungs : zf_ft := []
def xv_X11_readRungs : List (Nat × Nat × xe_F) := [(79, 2, fx_X7_fail), (91, 1, fx_X7_length), (126, 2, fx_X7_letter), (130, 6, fx_X3_add), (85, 1, fx_X7_step)]
def xt_X11_readRungs : List (Nat × Nat × xe_F) := []
abbrev xr_X11_readRungs := xe_run xGT xSC xRF 7 xg_X11_readRungs xp_X11_readRungs [] [] xv_X11_readRungs xt_X11_readRungs xi_X11_readRungs
def fx_X11_readRungs : xe_F := fun us hp v hp' => (us.map fun v => v.category).sum ≤ 7 ∧ xe_rt (some .boolean) v ∧ (∃ ar, us = ar ++ [.ref 4]) ∧ ∃ n, xr_X11_readRungs n (0, xe_ag 0 us.reverse, [], hp) v hp'
theorem mk_X11_readRungs {a2 : Int32} {hp hp' : xe_H} {v : Option Value} (hr : xe_rt (some .boolean) v) (h : ∃ n, xr_X11_readRungs n (0, [(0, .ref 4), (1, .ref 66), (2, .int a2)], [], hp) v hp') : fx_X11_readRungs [.int a2, .ref 66, .ref 4] hp v hp' := ⟨Nat.le_of_ble_eq_true rfl, hr, ⟨[.int a2, .ref 66], rfl⟩, h⟩
theorem hx_X11_readRungs : ∀ us hp v hp', fx_X11_readRungs us hp v hp' → (us.map fun v => v.category).sum ≤ 7 ∧ xe_rt (some .boolean) v ∧ ∃ n, xr_X11_readRungs n (0, xe_ag 0 us.reverse, [], hp) v hp' := fun us hp v hp' h => ⟨h.1, h.2.1, h.2.2.2⟩
theorem fr_X11_readRungs : ∀ us hp v hp', fx_X11_readRungs us hp v hp' → ∃ ar, us = ar ++ [.ref 4] := fun us hp v hp' h => h.2.2.1
set_option maxRecDepth 100000 in
set_option maxHeartbeats 4000000 in
theorem kx_X11_readRungs (l : Launch) (D : va_G) (k : Nat → ClassId) (B0 : Nat) (ad : Nat → Nat) (al sw : Nat) : xe_Con l yX11_readRungs (zw yX11_readRungs cX11_readRungs 7 (some .boolean)) ({ frames := 2, cells := 0, slots := 0, locals := 44 }) D k ad (zEx B0 ad al sw) xGT xSC xRF fx_X11_readRungs := by
  have hEx := zEx_ok B0 ad al sw
  refine xe_mk (cc := cX11_readRungs) (nL := 7) (ret := (some .boolean)) (fg := xg_X11_readRungs) (fp := xp_X11_readRungs) (sg := []) (lc := []) (cv := xv_X11_readRungs) (cs := xt_X11_readRungs) (ins := xi_X11_readRungs) (by decide) rfl hEx (by decide +kernel) hx_X11_readRungs ?_
  intro p e s m args below meth c Q Sg w0 A θ S hK hE hAB hA hth
  refine ⟨?_, ?_, ?_, ?_, ?_, ?_⟩
  · exact zf_ac ((fun H locs ws a q0 fs v rest pc ls hP he hv hdg kk => va_get (D := D) (ci := 9) (C := RX11) (T := TX11) (N := 4) (own := RX11) S.1 S.2.1 S.2.2.2.2 (zg_in inW_X11) S.2.2.2.1 hK hP q0 he rfl 0 (by decide) (S.2.2.2.2 (.fieldLink RX11 9 "RungMoney$TownReader" "reader" "LRungMoney$Reader;") (List.mem_cons_of_mem _ zw_199)) (fun _ h9 => h9) hv hdg kk)) (zf_ac ((fun H locs ws a q0 fs v rest pc ls hP he hv hdg kk => va_get (D := D) (ci := 5) (C := RX7) (T := TX7) (N := 11) (own := RX11) S.1 S.2.1 S.2.2.2.2 (zg_in inW_X7) S.2.2.2.1 hK hP q0 he rfl 4 (by decide) (S.2.2.2.2 (.fieldLink RX11 37 "RungMoney$Reader" "kind" "I") (List.mem_cons_of_mem _ zw_155)) (fun _ h9 => h9) hv hdg kk)) zf_an)
  · exact zf_an
  · exact xe_n2
  · exact xe_n3
  · exact xe_a4 (xe_crV S hEx hE hAB hA hK hth (kx_X7_fail l D k B0 ad al sw) (cwV 1 S.2.2.2.2 (zg_V zw_525 zw_526 zw_527 zw_97 zw_528) rfl rfl rfl (by decide +kernel) ⟨(Nat.le_of_ble_eq_true rfl), (Nat.le_of_ble_eq_true rfl)⟩) ⟨(Nat.le_of_ble_eq_true rfl), (Nat.le_of_ble_eq_true rfl)⟩ 5 rfl rfl 3 (by decide +kernel) fr_X7_fail) (xe_a4 (xe_crV S hEx hE hAB hA hK hth (kx_X7_length l D k B0 ad al sw) (cwV 0 S.2.2.2.2 (zg_V zw_531 zw_532 zw_533 zw_97 zw_534) rfl rfl rfl (by decide +kernel) ⟨(Nat.le_of_ble_eq_true rfl), (Nat.le_of_ble_eq_true rfl)⟩) ⟨(Nat.le_of_ble_eq_true rfl), (Nat.le_of_ble_eq_true rfl)⟩ 5 rfl rfl 3 (by decide +kernel) fr_X7_length) (xe_a4 (xe_crV S hEx hE hAB hA hK hth (kx_X7_letter l D k B0 ad al sw) (cwV 1 S.2.2.2.2 (zg_V zw_564 zw_565 zw_566 zw_97 zw_567) rfl rfl rfl (by decide +kernel) ⟨(Nat.le_of_ble_eq_true rfl), (Nat.le_of_ble_eq_true rfl)⟩) ⟨(Nat.le_of_ble_eq_true rfl), (Nat.le_of_ble_eq_true rfl)⟩ 5 rfl rfl 3 (by decide +kernel) fr_X7_letter) (xe_a4 (xe_crV S hEx hE hAB hA hK hth (kx_X3_add l D k B0 ad al sw) (cwV 5 S.2.2.2.2 (zg_V zw_568 zw_569 zw_570 zw_100 zw_571) rfl rfl rfl (by decide +kernel) ⟨(Nat.le_of_ble_eq_true rfl), (Nat.le_of_ble_eq_true rfl)⟩) ⟨(Nat.le_of_ble_eq_true rfl), (Nat.le_of_ble_eq_true rfl)⟩ 1 rfl rfl 66 (by decide +kernel) fr_X3_add) (xe_a4 (xe_crV S hEx hE hAB hA hK hth (kx_X7_step l D k B0 ad al sw) (cwV 0 S.2.2.2.2 (zg_V zw_529 zw_494 zw_495 zw_97 zw_496) rfl rfl rfl (by decide +kernel) ⟨(Nat.le_of_ble_eq_true rfl), (Nat.le_of_ble_eq_true rfl)⟩) ⟨(Nat.le_of_ble_eq_true rfl), (Nat.le_of_ble_eq_true rfl)⟩ 5 rfl rfl 3 (by decide +kernel) fr_X7_step) xe_n4))))
  · exact xe_n4
set_option maxRecDepth 100000 in
theorem pt_X11_readRungs_0 {a2 : Int32} {I : Nat → Nat → Int32} {L : Nat → Nat → Int64} (h1 : (xe_cmp .eq (I 3 4) (1 : Int32)) = true) {v9 : Option Value} {hp9 : xe_H} (r9 : ∃ n, xr_X11_readRungs n (28, [(0, .ref 4), (1, .ref 66), (2, .int a2), (3, .int (0 : Int32)), (4, .int (0 : Int32)), (5, .int (0 : Int32))], [], (I, L)) v9 hp9) : ∃ n, xr_X11_readRungs n (0, [(0, .ref 4), (1, .ref 66), (2, .int a2)], [], (I, L)) v9 hp9 := by
  refine xe_bT 4 (A := (20, [(0, .ref 4), (1, .ref 66), (2, .int a2)], [], (I, L))) (B := (11, [(0, .ref 4), (1, .ref 66), (2, .int a2)], [], (I, L))) h1 rfl ?_
  refine xe_go 5 (s' := (28, [(0, .ref 4), (1, .ref 66), (2, .int a2), (3, .int (0 : Int32)), (4, .int (0 : Int32)), (5, .int (0 : Int32))], [], (I, L))) rfl ?_
  exact xe_nrm [0, 1, 2, 3, 4, 5] rfl r9
set_option maxRecDepth 100000 in
theorem pt_X11_readRungs_1 {a2 : Int32} {I I1 : Nat → Nat → Int32} {L L1 : Nat → Nat → Int64} (h1 : (xe_cmp .eq (I 3 4) (1 : Int32)) = false) (c1 : fx_X7_fail [.int (1 : Int32), .ref 3] (I, L) (some (.int 0)) (I1, L1)) : ∃ n, xr_X11_readRungs n (0, [(0, .ref 4), (1, .ref 66), (2, .int a2)], [], (I, L)) (some (.int 0)) (I1, L1) := by
  refine xe_bF 4 (A := (20, [(0, .ref 4), (1, .ref 66), (2, .int a2)], [], (I, L))) (B := (11, [(0, .ref 4), (1, .ref 66), (2, .int a2)], [], (I, L))) h1 rfl ?_
  refine xe_go 2 (s' := (16, [(0, .ref 4), (1, .ref 66), (2, .int a2)], [.int (1 : Int32), .ref 3], (I, L))) rfl ?_
  refine xe_vir (n := 2) (f := fx_X7_fail) rfl (Nat.le_of_ble_eq_true rfl) (List.mem_of_getElem? (i := 0) rfl) (Nat.le_of_ble_eq_true rfl) c1 ?_
  exact xe_end rfl rfl rfl
set_option maxRecDepth 100000 in
theorem pt_X11_readRungs_2 {l2 l3 l4 l5 r1 r2 : Int32} {I I1 I2 I3 I4 : Nat → Nat → Int32} {L L1 L2 L3 L4 : Nat → Nat → Int64} (c1 : fx_X7_length [.ref 3] (I, L) (some (.int r1)) (I1, L1)) (h1 : (xe_cmp .ge l5 r1) = true) (c2 : fx_X7_length [.ref 3] (I1, L1) (some (.int r2)) (I2, L2)) (c3 : fx_X3_add [.int ((1 : Int32) <<< (l2 &&& 31)), .int l4, .int l3, .int r2, .int l2, .ref 66] (I2, L2) none (I3, L3)) (c4 : fx_X7_step [.ref 3] (I3, L3) none (I4, L4)) : ∃ n, xr_X11_readRungs n (28, [(0, .ref 4), (1, .ref 66), (2, .int l2), (3, .int l3), (4, .int l4), (5, .int l5)], [], (I, L)) (some (.int (1 : Int32))) (I4, L4) := by
  refine xe_go 2 (s' := (34, [(0, .ref 4), (1, .ref 66), (2, .int l2), (3, .int l3), (4, .int l4), (5, .int l5)], [.ref 3, .int l5], (I, L))) rfl ?_
  refine xe_vir (n := 1) (f := fx_X7_length) rfl (Nat.le_of_ble_eq_true rfl) (List.mem_of_getElem? (i := 1) rfl) (Nat.le_of_ble_eq_true rfl) c1 ?_
  refine xe_bT 0 (A := (109, [(0, .ref 4), (1, .ref 66), (2, .int l2), (3, .int l3), (4, .int l4), (5, .int l5)], [], (I1, L1))) (B := (40, [(0, .ref 4), (1, .ref 66), (2, .int l2), (3, .int l3), (4, .int l4), (5, .int l5)], [], (I1, L1))) h1 rfl ?_
  refine xe_go 3 (s' := (115, [(0, .ref 4), (1, .ref 66), (2, .int l2), (3, .int l3), (4, .int l4), (5, .int l5)], [.ref 3, .int l2, .ref 66], (I1, L1))) rfl ?_
  refine xe_vir (n := 1) (f := fx_X7_length) rfl (Nat.le_of_ble_eq_true rfl) (List.mem_of_getElem? (i := 1) rfl) (Nat.le_of_ble_eq_true rfl) c2 ?_
  refine xe_go 4 (s' := (124, [(0, .ref 4), (1, .ref 66), (2, .int l2), (3, .int l3), (4, .int l4), (5, .int l5)], [.int ((1 : Int32) <<< (l2 &&& 31)), .int l4, .int l3, .int r2, .int l2, .ref 66], (I2, L2))) rfl ?_
  refine xe_vir (n := 6) (f := fx_X3_add) rfl (Nat.le_of_ble_eq_true rfl) (List.mem_of_getElem? (i := 3) rfl) (Nat.le_of_ble_eq_true rfl) c3 ?_
  refine xe_go 1 (s' := (131, [(0, .ref 4), (1, .ref 66), (2, .int l2), (3, .int l3), (4, .int l4), (5, .int l5)], [.ref 3], (I3, L3))) rfl ?_
  refine xe_vir (n := 1) (f := fx_X7_step) rfl (Nat.le_of_ble_eq_true rfl) (List.mem_of_getElem? (i := 4) rfl) (Nat.le_of_ble_eq_true rfl) c4 ?_
  refine xe_go 0 (s' := (135, [(0, .ref 4), (1, .ref 66), (2, .int l2), (3, .int l3), (4, .int l4), (5, .int l5)], [.int (1 : Int32)], (I4, L4))) rfl ?_
  exact xe_end rfl rfl rfl
set_option maxRecDepth 100000 in
theorem pt_X11_readRungs_3 {l2 l3 l4 l5 r1 r2 : Int32} {I I1 I2 : Nat → Nat → Int32} {L L1 L2 : Nat → Nat → Int64} (c1 : fx_X7_length [.ref 3] (I, L) (some (.int r1)) (I1, L1)) (h1 : (xe_cmp .ge l5 r1) = false) (c2 : fx_X7_letter [.int l5, .ref 3] (I1, L1) (some (.int r2)) (I2, L2)) (h2 : (xe_cmp .ne r2 (115 : Int32)) = true) (h3 : (xe_cmp .ne r2 (112 : Int32)) = true) (h4 : (xe_cmp .eq r2 (114 : Int32)) = true) {v9 : Option Value} {hp9 : xe_H} (r9 : ∃ n, xr_X11_readRungs n (28, [(0, .ref 4), (1, .ref 66), (2, .int l2), (3, .int l3), (4, .int l4), (5, .int (l5 + (1 : Int32)))], [], (I2, L2)) v9 hp9) : ∃ n, xr_X11_readRungs n (28, [(0, .ref 4), (1, .ref 66), (2, .int l2), (3, .int l3), (4, .int l4), (5, .int l5)], [], (I, L)) v9 hp9 := by
  refine xe_go 2 (s' := (34, [(0, .ref 4), (1, .ref 66), (2, .int l2), (3, .int l3), (4, .int l4), (5, .int l5)], [.ref 3, .int l5], (I, L))) rfl ?_
  refine xe_vir (n := 1) (f := fx_X7_length) rfl (Nat.le_of_ble_eq_true rfl) (List.mem_of_getElem? (i := 1) rfl) (Nat.le_of_ble_eq_true rfl) c1 ?_
  refine xe_bF 0 (A := (109, [(0, .ref 4), (1, .ref 66), (2, .int l2), (3, .int l3), (4, .int l4), (5, .int l5)], [], (I1, L1))) (B := (40, [(0, .ref 4), (1, .ref 66), (2, .int l2), (3, .int l3), (4, .int l4), (5, .int l5)], [], (I1, L1))) h1 rfl ?_
  refine xe_go 2 (s' := (46, [(0, .ref 4), (1, .ref 66), (2, .int l2), (3, .int l3), (4, .int l4), (5, .int l5)], [.int l5, .ref 3], (I1, L1))) rfl ?_
  refine xe_vir (n := 2) (f := fx_X7_letter) rfl (Nat.le_of_ble_eq_true rfl) (List.mem_of_getElem? (i := 2) rfl) (Nat.le_of_ble_eq_true rfl) c2 ?_
  refine xe_bT 3 (A := (68, [(0, .ref 4), (1, .ref 66), (2, .int l2), (3, .int l3), (4, .int l4), (5, .int l5), (6, .int r2)], [], (I2, L2))) (B := (58, [(0, .ref 4), (1, .ref 66), (2, .int l2), (3, .int l3), (4, .int l4), (5, .int l5), (6, .int r2)], [], (I2, L2))) h2 rfl ?_
  refine xe_bT 2 (A := (87, [(0, .ref 4), (1, .ref 66), (2, .int l2), (3, .int l3), (4, .int l4), (5, .int l5), (6, .int r2)], [], (I2, L2))) (B := (75, [(0, .ref 4), (1, .ref 66), (2, .int l2), (3, .int l3), (4, .int l4), (5, .int l5), (6, .int r2)], [], (I2, L2))) h3 rfl ?_
  refine xe_bT 2 (A := (103, [(0, .ref 4), (1, .ref 66), (2, .int l2), (3, .int l3), (4, .int l4), (5, .int l5), (6, .int r2)], [], (I2, L2))) (B := (94, [(0, .ref 4), (1, .ref 66), (2, .int l2), (3, .int l3), (4, .int l4), (5, .int l5), (6, .int r2)], [], (I2, L2))) h4 rfl ?_
  refine xe_go 1 (s' := (28, [(0, .ref 4), (1, .ref 66), (2, .int l2), (3, .int l3), (4, .int l4), (5, .int (l5 + (1 : Int32))), (6, .int r2)], [], (I2, L2))) rfl ?_
  exact xe_nrm [0, 1, 2, 3, 4, 5] rfl r9
set_option maxRecDepth 100000 in
theorem pt_X11_readRungs_4 {l2 l3 l4 l5 r1 r2 : Int32} {I I1 I2 I3 : Nat → Nat → Int32} {L L1 L2 L3 : Nat → Nat → Int64} (c1 : fx_X7_length [.ref 3] (I, L) (some (.int r1)) (I1, L1)) (h1 : (xe_cmp .ge l5 r1) = false) (c2 : fx_X7_letter [.int l5, .ref 3] (I1, L1) (some (.int r2)) (I2, L2)) (h2 : (xe_cmp .ne r2 (115 : Int32)) = true) (h3 : (xe_cmp .ne r2 (112 : Int32)) = true) (h4 : (xe_cmp .eq r2 (114 : Int32)) = false) (c3 : fx_X7_fail [.int (3 : Int32), .ref 3] (I2, L2) (some (.int 0)) (I3, L3)) : ∃ n, xr_X11_readRungs n (28, [(0, .ref 4), (1, .ref 66), (2, .int l2), (3, .int l3), (4, .int l4), (5, .int l5)], [], (I, L)) (some (.int 0)) (I3, L3) := by
  refine xe_go 2 (s' := (34, [(0, .ref 4), (1, .ref 66), (2, .int l2), (3, .int l3), (4, .int l4), (5, .int l5)], [.ref 3, .int l5], (I, L))) rfl ?_
  refine xe_vir (n := 1) (f := fx_X7_length) rfl (Nat.le_of_ble_eq_true rfl) (List.mem_of_getElem? (i := 1) rfl) (Nat.le_of_ble_eq_true rfl) c1 ?_
  refine xe_bF 0 (A := (109, [(0, .ref 4), (1, .ref 66), (2, .int l2), (3, .int l3), (4, .int l4), (5, .int l5)], [], (I1, L1))) (B := (40, [(0, .ref 4), (1, .ref 66), (2, .int l2), (3, .int l3), (4, .int l4), (5, .int l5)], [], (I1, L1))) h1 rfl ?_
  refine xe_go 2 (s' := (46, [(0, .ref 4), (1, .ref 66), (2, .int l2), (3, .int l3), (4, .int l4), (5, .int l5)], [.int l5, .ref 3], (I1, L1))) rfl ?_
  refine xe_vir (n := 2) (f := fx_X7_letter) rfl (Nat.le_of_ble_eq_true rfl) (List.mem_of_getElem? (i := 2) rfl) (Nat.le_of_ble_eq_true rfl) c2 ?_
  refine xe_bT 3 (A := (68, [(0, .ref 4), (1, .ref 66), (2, .int l2), (3, .int l3), (4, .int l4), (5, .int l5), (6, .int r2)], [], (I2, L2))) (B := (58, [(0, .ref 4), (1, .ref 66), (2, .int l2), (3, .int l3), (4, .int l4), (5, .int l5), (6, .int r2)], [], (I2, L2))) h2 rfl ?_
  refine xe_bT 2 (A := (87, [(0, .ref 4), (1, .ref 66), (2, .int l2), (3, .int l3), (4, .int l4), (5, .int l5), (6, .int r2)], [], (I2, L2))) (B := (75, [(0, .ref 4), (1, .ref 66), (2, .int l2), (3, .int l3), (4, .int l4), (5, .int l5), (6, .int r2)], [], (I2, L2))) h3 rfl ?_
  refine xe_bF 2 (A := (103, [(0, .ref 4), (1, .ref 66), (2, .int l2), (3, .int l3), (4, .int l4), (5, .int l5), (6, .int r2)], [], (I2, L2))) (B := (94, [(0, .ref 4), (1, .ref 66), (2, .int l2), (3, .int l3), (4, .int l4), (5, .int l5), (6, .int r2)], [], (I2, L2))) h4 rfl ?_
  refine xe_go 2 (s' := (99, [(0, .ref 4), (1, .ref 66), (2, .int l2), (3, .int l3), (4, .int l4), (5, .int l5), (6, .int r2)], [.int (3 : Int32), .ref 3], (I2, L2))) rfl ?_
  refine xe_vir (n := 2) (f := fx_X7_fail) rfl (Nat.le_of_ble_eq_true rfl) (List.mem_of_getElem? (i := 0) rfl) (Nat.le_of_ble_eq_true rfl) c3 ?_
  exact xe_end rfl rfl rfl
set_option maxRecDepth 100000 in
theorem pt_X11_readRungs_5 {l2 l3 l4 l5 r1 r2 : Int32} {I I1 I2 : Nat → Nat → Int32} {L L1 L2 : Nat → Nat → Int64} (c1 : fx_X7_length [.ref 3] (I, L) (some (.int r1)) (I1, L1)) (h1 : (xe_cmp .ge l5 r1) = false) (c2 : fx_X7_letter [.int l5, .ref 3] (I1, L1) (some (.int r2)) (I2, L2)) (h2 : (xe_cmp .ne r2 (115 : Int32)) = true) (h3 : (xe_cmp .ne r2 (112 : Int32)) = false) {v9 : Option Value} {hp9 : xe_H} (r9 : ∃ n, xr_X11_readRungs n (28, [(0, .ref 4), (1, .ref 66), (2, .int l2), (3, .int l3), (4, .int (l4 ||| ((1 : Int32) <<< (l5 &&& 31)))), (5, .int (l5 + (1 : Int32)))], [], (I2, L2)) v9 hp9) : ∃ n, xr_X11_readRungs n (28, [(0, .ref 4), (1, .ref 66), (2, .int l2), (3, .int l3), (4, .int l4), (5, .int l5)], [], (I, L)) v9 hp9 := by
  refine xe_go 2 (s' := (34, [(0, .ref 4), (1, .ref 66), (2, .int l2), (3, .int l3), (4, .int l4), (5, .int l5)], [.ref 3, .int l5], (I, L))) rfl ?_
  refine xe_vir (n := 1) (f := fx_X7_length) rfl (Nat.le_of_ble_eq_true rfl) (List.mem_of_getElem? (i := 1) rfl) (Nat.le_of_ble_eq_true rfl) c1 ?_
  refine xe_bF 0 (A := (109, [(0, .ref 4), (1, .ref 66), (2, .int l2), (3, .int l3), (4, .int l4), (5, .int l5)], [], (I1, L1))) (B := (40, [(0, .ref 4), (1, .ref 66), (2, .int l2), (3, .int l3), (4, .int l4), (5, .int l5)], [], (I1, L1))) h1 rfl ?_
  refine xe_go 2 (s' := (46, [(0, .ref 4), (1, .ref 66), (2, .int l2), (3, .int l3), (4, .int l4), (5, .int l5)], [.int l5, .ref 3], (I1, L1))) rfl ?_
  refine xe_vir (n := 2) (f := fx_X7_letter) rfl (Nat.le_of_ble_eq_true rfl) (List.mem_of_getElem? (i := 2) rfl) (Nat.le_of_ble_eq_true rfl) c2 ?_
  refine xe_bT 3 (A := (68, [(0, .ref 4), (1, .ref 66), (2, .int l2), (3, .int l3), (4, .int l4), (5, .int l5), (6, .int r2)], [], (I2, L2))) (B := (58, [(0, .ref 4), (1, .ref 66), (2, .int l2), (3, .int l3), (4, .int l4), (5, .int l5), (6, .int r2)], [], (I2, L2))) h2 rfl ?_
  refine xe_bF 2 (A := (87, [(0, .ref 4), (1, .ref 66), (2, .int l2), (3, .int l3), (4, .int l4), (5, .int l5), (6, .int r2)], [], (I2, L2))) (B := (75, [(0, .ref 4), (1, .ref 66), (2, .int l2), (3, .int l3), (4, .int l4), (5, .int l5), (6, .int r2)], [], (I2, L2))) h3 rfl ?_
  refine xe_go 8 (s' := (28, [(0, .ref 4), (1, .ref 66), (2, .int l2), (3, .int l3), (4, .int (l4 ||| ((1 : Int32) <<< (l5 &&& 31)))), (5, .int (l5 + (1 : Int32))), (6, .int r2)], [], (I2, L2))) rfl ?_
  exact xe_nrm [0, 1, 2, 3, 4, 5] rfl r9
set_option maxRecDepth 100000 in
theorem pt_X11_readRungs_6 {l2 l3 l4 l5 r1 r2 : Int32} {I I1 I2 : Nat → Nat → Int32} {L L1 L2 : Nat → Nat → Int64} (c1 : fx_X7_length [.ref 3] (I, L) (some (.int r1)) (I1, L1)) (h1 : (xe_cmp .ge l5 r1) = false) (c2 : fx_X7_letter [.int l5, .ref 3] (I1, L1) (some (.int r2)) (I2, L2)) (h2 : (xe_cmp .ne r2 (115 : Int32)) = false) {v9 : Option Value} {hp9 : xe_H} (r9 : ∃ n, xr_X11_readRungs n (28, [(0, .ref 4), (1, .ref 66), (2, .int l2), (3, .int (l3 ||| ((1 : Int32) <<< (l5 &&& 31)))), (4, .int l4), (5, .int (l5 + (1 : Int32)))], [], (I2, L2)) v9 hp9) : ∃ n, xr_X11_readRungs n (28, [(0, .ref 4), (1, .ref 66), (2, .int l2), (3, .int l3), (4, .int l4), (5, .int l5)], [], (I, L)) v9 hp9 := by
  refine xe_go 2 (s' := (34, [(0, .ref 4), (1, .ref 66), (2, .int l2), (3, .int l3), (4, .int l4), (5, .int l5)], [.ref 3, .int l5], (I, L))) rfl ?_
  refine xe_vir (n := 1) (f := fx_X7_length) rfl (Nat.le_of_ble_eq_true rfl) (List.mem_of_getElem? (i := 1) rfl) (Nat.le_of_ble_eq_true rfl) c1 ?_
  refine xe_bF 0 (A := (109, [(0, .ref 4), (1, .ref 66), (2, .int l2), (3, .int l3), (4, .int l4), (5, .int l5)], [], (I1, L1))) (B := (40, [(0, .ref 4), (1, .ref 66), (2, .int l2), (3, .int l3), (4, .int l4), (5, .int l5)], [], (I1, L1))) h1 rfl ?_
  refine xe_go 2 (s' := (46, [(0, .ref 4), (1, .ref 66), (2, .int l2), (3, .int l3), (4, .int l4), (5, .int l5)], [.int l5, .ref 3], (I1, L1))) rfl ?_
  refine xe_vir (n := 2) (f := fx_X7_letter) rfl (Nat.le_of_ble_eq_true rfl) (List.mem_of_getElem? (i := 2) rfl) (Nat.le_of_ble_eq_true rfl) c2 ?_
  refine xe_bF 3 (A := (68, [(0, .ref 4), (1, .ref 66), (2, .int l2), (3, .int l3), (4, .int l4), (5, .int l5), (6, .int r2)], [], (I2, L2))) (B := (58, [(0, .ref 4), (1, .ref 66), (2, .int l2), (3, .int l3), (4, .int l4), (5, .int l5), (6, .int r2)], [], (I2, L2))) h2 rfl ?_
  refine xe_go 8 (s' := (28, [(0, .ref 4), (1, .ref 66), (2, .int l2), (3, .int (l3 ||| ((1 : Int32) <<< (l5 &&& 31)))), (4, .int l4), (5, .int (l5 + (1 : Int32))), (6, .int r2)], [], (I2, L2))) rfl ?_
  exact xe_nrm [0, 1, 2, 3, 4, 5] rfl r9
def xi_X11_readLadder : List (Nat × Nat × Instr) := [(0, 1, .aload_n 1), (1, 3, .getfield 107), (4, 3, .getfield 111), (7, 2, .bipush 16), (9, 3, .if_icmp .lt 12), (12, 1, .aload_n 0), (13, 3, .getfield 9), (16, 1, .iconst 4), (17, 3, .invokevirtual 79), (20, 1, .ireturn), (21, 1, .aload_n 0), (22, 3, .getfield 9), (25, 3, .invokevirtual 85), (28, 1, .aload_n 0), (29, 3, .getfield 9), (32, 1, .aload_n 1), (33, 3, .invokevirtual 116), (36, 3, .ifCond .eq 25), (39, 1, .aload_n 0), (40, 1, .aload_n 1), (41, 3, .getfield 107), (44, 1, .aload_n 0), (45, 3, .getfield 9), (48, 3, .getfield 119), (51, 3, .invokevirtual 122), (54, 3, .ifCond .eq 7), (57, 1, .iconst 1), (58, 3, .goto 4), (61, 1, .iconst 0), (62, 1, .ireturn)]
def xg_X11_readLadder : zf_ft := [(107, 8, 2, .inl (0, 0)), (111, 1, 0, .inl (0, 0)), (9, 9, 0, .inl (0, 0)), (119, 5, 8, .inl (0, 0))]
def xp_X11_readLadder : zf_ft := []
def xv_X11_readLadder : List (Nat × Nat × xe_F) := [(79, 2, fx_X7_fail), (85, 1, fx_X7_step), (116, 2, fx_X7_takeMan), (122, 3, fx_X11_readRungs)]
def xt_X11_readLadder : List (Nat × Nat × xe_F) := []
abbrev xr_X11_readLadder := xe_run xGT xSC xRF 2 xg_X11_readLadder xp_X11_readLadder [] [] xv_X11_readLadder xt_X11_readLadder xi_X11_readLadder
def fx_X11_readLadder : xe_F := fun us hp v hp' => (us.map fun v => v.category).sum ≤ 2 ∧ xe_rt (some .boolean) v ∧ (∃ ar, us = ar ++ [.ref 4]) ∧ ∃ n, xr_X11_readLadder n (0, xe_ag 0 us.reverse, [], hp) v hp'
theorem mk_X11_readLadder  {hp hp' : xe_H} {v : Option Value} (hr : xe_rt (some .boolean) v) (h : ∃ n, xr_X11_readLadder n (0, [(0, .ref 4), (1, .ref 64)], [], hp) v hp') : fx_X11_readLadder [.ref 64, .ref 4] hp v hp' := ⟨Nat.le_of_ble_eq_true rfl, hr, ⟨[.ref 64], rfl⟩, h⟩
theorem hx_X11_readLadder : ∀ us hp v hp', fx_X11_readLadder us hp v hp' → (us.map fun v => v.category).sum ≤ 2 ∧ xe_rt (some .boolean) v ∧ ∃ n, xr_X11_readLadder n (0, xe_ag 0 us.reverse, [], hp) v hp' := fun us hp v hp' h => ⟨h.1, h.2.1, h.2.2.2⟩
theorem fr_X11_readLadder : ∀ us hp v hp', fx_X11_readLadder us hp v hp' → ∃ ar, us = ar ++ [.ref 4] := fun us hp v hp' h => h.2.2.1
set_option maxRecDepth 100000 in
set_option maxHeartbeats 4000000 in
theorem kx_X11_readLadder (l : Launch) (D : va_G) (k : Nat → ClassId) (B0 : Nat) (ad : Nat → Nat) (al sw : Nat) : xe_Con l yX11_readLadder (zw yX11_readLadder cX11_readLadder 2 (some .boolean)) ({ frames := 3, cells := 0, slots := 0, locals := 70 }) D k ad (zEx B0 ad al sw) xGT xSC xRF fx_X11_readLadder := by
  have hEx := zEx_ok B0 ad al sw
  refine xe_mk (cc := cX11_readLadder) (nL := 2) (ret := (some .boolean)) (fg := xg_X11_readLadder) (fp := xp_X11_readLadder) (sg := []) (lc := []) (cv := xv_X11_readLadder) (cs := xt_X11_readLadder) (ins := xi_X11_readLadder) (by decide) rfl hEx (by decide +kernel) hx_X11_readLadder ?_
  intro p e s m args below meth c Q Sg w0 A θ S hK hE hAB hA hth
  refine ⟨?_, ?_, ?_, ?_, ?_, ?_⟩
  · exact zf_ac ((fun H locs ws a q0 fs v rest pc ls hP he hv hdg kk => va_get (D := D) (ci := 8) (C := RX10) (T := TX10) (N := 9) (own := RX11) S.1 S.2.1 S.2.2.2.2 (zg_in inW_X10) S.2.2.2.1 hK hP q0 he rfl 2 (by decide) (S.2.2.2.2 (.fieldLink RX11 107 "RungMoney$Town" "ladders" "LRungMoney$Ladders;") (List.mem_cons_of_mem _ zw_268)) (fun _ h9 => h9) hv hdg kk)) (zf_ac ((fun H locs ws a q0 fs v rest pc ls hP he hv hdg kk => va_get (D := D) (ci := 1) (C := RX3) (T := TX3) (N := 6) (own := RX11) S.1 S.2.1 S.2.2.2.2 (zg_in inW_X3) S.2.2.2.1 hK hP q0 he rfl 0 (by decide) (S.2.2.2.2 (.fieldLink RX11 111 "RungMoney$Ladders" "size" "I") (List.mem_cons_of_mem _ zw_228)) (fun _ h9 => h9) hv hdg kk)) (zf_ac ((fun H locs ws a q0 fs v rest pc ls hP he hv hdg kk => va_get (D := D) (ci := 9) (C := RX11) (T := TX11) (N := 4) (own := RX11) S.1 S.2.1 S.2.2.2.2 (zg_in inW_X11) S.2.2.2.1 hK hP q0 he rfl 0 (by decide) (S.2.2.2.2 (.fieldLink RX11 9 "RungMoney$TownReader" "reader" "LRungMoney$Reader;") (List.mem_cons_of_mem _ zw_199)) (fun _ h9 => h9) hv hdg kk)) (zf_ac ((fun H locs ws a q0 fs v rest pc ls hP he hv hdg kk => va_get (D := D) (ci := 5) (C := RX7) (T := TX7) (N := 11) (own := RX11) S.1 S.2.1 S.2.2.2.2 (zg_in inW_X7) S.2.2.2.1 hK hP q0 he rfl 8 (by decide) (S.2.2.2.2 (.fieldLink RX11 119 "RungMoney$Reader" "taken" "I") (List.mem_cons_of_mem _ zw_163)) (fun _ h9 => h9) hv hdg kk)) zf_an)))
  · exact zf_an
  · exact xe_n2
  · exact xe_n3
  · exact xe_a4 (xe_crV S hEx hE hAB hA hK hth (kx_X7_fail l D k B0 ad al sw) (cwV 1 S.2.2.2.2 (zg_V zw_525 zw_526 zw_527 zw_97 zw_528) rfl rfl rfl (by decide +kernel) ⟨(Nat.le_of_ble_eq_true rfl), (Nat.le_of_ble_eq_true rfl)⟩) ⟨(Nat.le_of_ble_eq_true rfl), (Nat.le_of_ble_eq_true rfl)⟩ 5 rfl rfl 3 (by decide +kernel) fr_X7_fail) (xe_a4 (xe_crV S hEx hE hAB hA hK hth (kx_X7_step l D k B0 ad al sw) (cwV 0 S.2.2.2.2 (zg_V zw_529 zw_494 zw_495 zw_97 zw_496) rfl rfl rfl (by decide +kernel) ⟨(Nat.le_of_ble_eq_true rfl), (Nat.le_of_ble_eq_true rfl)⟩) ⟨(Nat.le_of_ble_eq_true rfl), (Nat.le_of_ble_eq_true rfl)⟩ 5 rfl rfl 3 (by decide +kernel) fr_X7_step) (xe_a4 (xe_crV S hEx hE hAB hA hK hth (kx_X7_takeMan l D k B0 ad al sw) (cwV 1 S.2.2.2.2 (zg_V zw_549 zw_550 zw_551 zw_97 zw_552) rfl rfl rfl (by decide +kernel) ⟨(Nat.le_of_ble_eq_true rfl), (Nat.le_of_ble_eq_true rfl)⟩) ⟨(Nat.le_of_ble_eq_true rfl), (Nat.le_of_ble_eq_true rfl)⟩ 5 rfl rfl 3 (by decide +kernel) fr_X7_takeMan) (xe_a4 (xe_crV S hEx hE hAB hA hK hth (kx_X11_readRungs l D k B0 ad al sw) (cwV 2 S.2.2.2.2 (zg_V zw_560 zw_562 zw_4 zw_98 zw_563) rfl rfl rfl (by decide +kernel) ⟨(Nat.le_of_ble_eq_true rfl), (Nat.le_of_ble_eq_true rfl)⟩) ⟨(Nat.le_of_ble_eq_true rfl), (Nat.le_of_ble_eq_true rfl)⟩ 9 rfl rfl 4 (by decide +kernel) fr_X11_readRungs) xe_n4)))
  · exact xe_n4
set_option maxRecDepth 100000 in
theorem pt_X11_readLadder_0 {I I1 I2 I3 : Nat → Nat → Int32} {L L1 L2 L3 : Nat → Nat → Int64} (h1 : (xe_cmp .lt (I 66 0) (16 : Int32)) = true) (c1 : fx_X7_step [.ref 3] (I, L) none (I1, L1)) (c2 : fx_X7_takeMan [.ref 64, .ref 3] (I1, L1) (some (.int 1)) (I2, L2)) (c3 : fx_X11_readRungs [.int (I2 3 8), .ref 66, .ref 4] (I2, L2) (some (.int 1)) (I3, L3)) : ∃ n, xr_X11_readLadder n (0, [(0, .ref 4), (1, .ref 64)], [], (I, L)) (some (.int (1 : Int32))) (I3, L3) := by
  refine xe_bT 4 (A := (21, [(0, .ref 4), (1, .ref 64)], [], (I, L))) (B := (12, [(0, .ref 4), (1, .ref 64)], [], (I, L))) h1 rfl ?_
  refine xe_go 1 (s' := (25, [(0, .ref 4), (1, .ref 64)], [.ref 3], (I, L))) rfl ?_
  refine xe_vir (n := 1) (f := fx_X7_step) rfl (Nat.le_of_ble_eq_true rfl) (List.mem_of_getElem? (i := 1) rfl) (Nat.le_of_ble_eq_true rfl) c1 ?_
  refine xe_go 2 (s' := (33, [(0, .ref 4), (1, .ref 64)], [.ref 64, .ref 3], (I1, L1))) rfl ?_
  refine xe_vir (n := 2) (f := fx_X7_takeMan) rfl (Nat.le_of_ble_eq_true rfl) (List.mem_of_getElem? (i := 2) rfl) (Nat.le_of_ble_eq_true rfl) c2 ?_
  refine xe_go 6 (s' := (51, [(0, .ref 4), (1, .ref 64)], [.int (I2 3 8), .ref 66, .ref 4], (I2, L2))) rfl ?_
  refine xe_vir (n := 3) (f := fx_X11_readRungs) rfl (Nat.le_of_ble_eq_true rfl) (List.mem_of_getElem? (i := 3) rfl) (Nat.le_of_ble_eq_true rfl) c3 ?_
  refine xe_go 2 (s' := (62, [(0, .ref 4), (1, .ref 64)], [.int (1 : Int32)], (I3, L3))) rfl ?_
  exact xe_end rfl rfl rfl
set_option maxRecDepth 100000 in
theorem pt_X11_readLadder_1 {I I1 I2 I3 : Nat → Nat → Int32} {L L1 L2 L3 : Nat → Nat → Int64} (h1 : (xe_cmp .lt (I 66 0) (16 : Int32)) = true) (c1 : fx_X7_step [.ref 3] (I, L) none (I1, L1)) (c2 : fx_X7_takeMan [.ref 64, .ref 3] (I1, L1) (some (.int 1)) (I2, L2)) (c3 : fx_X11_readRungs [.int (I2 3 8), .ref 66, .ref 4] (I2, L2) (some (.int 0)) (I3, L3)) : ∃ n, xr_X11_readLadder n (0, [(0, .ref 4), (1, .ref 64)], [], (I, L)) (some (.int (0 : Int32))) (I3, L3) := by
  refine xe_bT 4 (A := (21, [(0, .ref 4), (1, .ref 64)], [], (I, L))) (B := (12, [(0, .ref 4), (1, .ref 64)], [], (I, L))) h1 rfl ?_
  refine xe_go 1 (s' := (25, [(0, .ref 4), (1, .ref 64)], [.ref 3], (I, L))) rfl ?_
  refine xe_vir (n := 1) (f := fx_X7_step) rfl (Nat.le_of_ble_eq_true rfl) (List.mem_of_getElem? (i := 1) rfl) (Nat.le_of_ble_eq_true rfl) c1 ?_
  refine xe_go 2 (s' := (33, [(0, .ref 4), (1, .ref 64)], [.ref 64, .ref 3], (I1, L1))) rfl ?_
  refine xe_vir (n := 2) (f := fx_X7_takeMan) rfl (Nat.le_of_ble_eq_true rfl) (List.mem_of_getElem? (i := 2) rfl) (Nat.le_of_ble_eq_true rfl) c2 ?_
  refine xe_go 6 (s' := (51, [(0, .ref 4), (1, .ref 64)], [.int (I2 3 8), .ref 66, .ref 4], (I2, L2))) rfl ?_
  refine xe_vir (n := 3) (f := fx_X11_readRungs) rfl (Nat.le_of_ble_eq_true rfl) (List.mem_of_getElem? (i := 3) rfl) (Nat.le_of_ble_eq_true rfl) c3 ?_
  refine xe_go 1 (s' := (62, [(0, .ref 4), (1, .ref 64)], [.int (0 : Int32)], (I3, L3))) rfl ?_
  exact xe_end rfl rfl rfl
set_option maxRecDepth 100000 in
theorem pt_X11_readLadder_2 {I I1 I2 : Nat → Nat → Int32} {L L1 L2 : Nat → Nat → Int64} (h1 : (xe_cmp .lt (I 66 0) (16 : Int32)) = true) (c1 : fx_X7_step [.ref 3] (I, L) none (I1, L1)) (c2 : fx_X7_takeMan [.ref 64, .ref 3] (I1, L1) (some (.int 0)) (I2, L2)) : ∃ n, xr_X11_readLadder n (0, [(0, .ref 4), (1, .ref 64)], [], (I, L)) (some (.int (0 : Int32))) (I2, L2) := by
  refine xe_bT 4 (A := (21, [(0, .ref 4), (1, .ref 64)], [], (I, L))) (B := (12, [(0, .ref 4), (1, .ref 64)], [], (I, L))) h1 rfl ?_
  refine xe_go 1 (s' := (25, [(0, .ref 4), (1, .ref 64)], [.ref 3], (I, L))) rfl ?_
  refine xe_vir (n := 1) (f := fx_X7_step) rfl (Nat.le_of_ble_eq_true rfl) (List.mem_of_getElem? (i := 1) rfl) (Nat.le_of_ble_eq_true rfl) c1 ?_
  refine xe_go 2 (s' := (33, [(0, .ref 4), (1, .ref 64)], [.ref 64, .ref 3], (I1, L1))) rfl ?_
  refine xe_vir (n := 2) (f := fx_X7_takeMan) rfl (Nat.le_of_ble_eq_true rfl) (List.mem_of_getElem? (i := 2) rfl) (Nat.le_of_ble_eq_true rfl) c2 ?_
  refine xe_go 1 (s' := (62, [(0, .ref 4), (1, .ref 64)], [.int (0 : Int32)], (I2, L2))) rfl ?_
  exact xe_end rfl rfl rfl
set_option maxRecDepth 100000 in
theorem pt_X11_readLadder_3 {I I1 : Nat → Nat → Int32} {L L1 : Nat → Nat → Int64} (h1 : (xe_cmp .lt (I 66 0) (16 : Int32)) = false) (c1 : fx_X7_fail [.int (4 : Int32), .ref 3] (I, L) (some (.int 0)) (I1, L1)) : ∃ n, xr_X11_readLadder n (0, [(0, .ref 4), (1, .ref 64)], [], (I, L)) (some (.int 0)) (I1, L1) := by
  refine xe_bF 4 (A := (21, [(0, .ref 4), (1, .ref 64)], [], (I, L))) (B := (12, [(0, .ref 4), (1, .ref 64)], [], (I, L))) h1 rfl ?_
  refine xe_go 2 (s' := (17, [(0, .ref 4), (1, .ref 64)], [.int (4 : Int32), .ref 3], (I, L))) rfl ?_
  refine xe_vir (n := 2) (f := fx_X7_fail) rfl (Nat.le_of_ble_eq_true rfl) (List.mem_of_getElem? (i := 0) rfl) (Nat.le_of_ble_eq_true rfl) c1 ?_
  exact xe_end rfl rfl rfl
def xi_X11_readDebt : List (Nat × Nat × Instr) := [(0, 1, .aload_n 0), (1, 3, .getfield 20), (4, 2, .bipush 20), (6, 3, .if_icmp .lt 12), (9, 1, .aload_n 0), (10, 3, .getfield 9), (13, 1, .iconst 4), (14, 3, .invokevirtual 79), (17, 1, .ireturn), (18, 1, .aload_n 0), (19, 1, .dup), (20, 3, .getfield 20), (23, 1, .iconst 1), (24, 1, .iadd), (25, 3, .putfield 20), (28, 1, .aload_n 0), (29, 3, .getfield 9), (32, 3, .invokevirtual 85), (35, 1, .aload_n 0), (36, 3, .getfield 9), (39, 1, .aload_n 1), (40, 3, .invokevirtual 116), (43, 3, .ifCond .ne 5), (46, 1, .iconst 0), (47, 1, .ireturn), (48, 1, .aload_n 0), (49, 3, .getfield 9), (52, 3, .getfield 119), (55, 1, .istore_n 2), (56, 1, .aload_n 0), (57, 3, .getfield 9), (60, 1, .aload_n 1), (61, 3, .invokevirtual 134), (64, 3, .ifCond .ne 5), (67, 1, .iconst 0), (68, 1, .ireturn), (69, 1, .aload_n 0), (70, 3, .getfield 9), (73, 3, .getfield 119), (76, 1, .istore_n 3), (77, 1, .iload_n 2), (78, 1, .iload_n 3), (79, 3, .if_icmp .eq 15), (82, 1, .aload_n 1), (83, 3, .getfield 137), (86, 1, .iload_n 2), (87, 1, .iload_n 3), (88, 3, .invokevirtual 140), (91, 3, .ifCond .eq 12), (94, 1, .aload_n 0), (95, 3, .getfield 9), (98, 1, .iconst 3), (99, 3, .invokevirtual 79), (102, 1, .ireturn), (103, 1, .aload_n 0), (104, 3, .getfield 9), (107, 3, .invokevirtual 85), (110, 1, .aload_n 0), (111, 3, .getfield 9), (114, 1, .iconst 1), (115, 3, .sipush 250), (118, 3, .invokevirtual 146), (121, 3, .ifCond .ne 5), (124, 1, .iconst 0), (125, 1, .ireturn), (126, 1, .aload_n 1), (127, 3, .getfield 137), (130, 1, .iload_n 2), (131, 1, .iload_n 3), (132, 1, .aload_n 0), (133, 3, .getfield 9), (136, 3, .getfield 119), (139, 3, .invokevirtual 150), (142, 1, .iconst 1), (143, 1, .ireturn)]
def xg_X11_readDebt : zf_ft := [(20, 9, 1, .inl (0, 0)), (9, 9, 0, .inl (0, 0)), (119, 5, 8, .inl (0, 0)), (137, 8, 3, .inl (0, 0))]
def xp_X11_readDebt : zf_ft := [(20, 9, 1, .inl ((-2147483648), 2147483647))]
def xv_X11_readDebt : List (Nat × Nat × xe_F) := [(79, 2, fx_X7_fail), (85, 1, fx_X7_step), (116, 2, fx_X7_takeMan), (134, 2, fx_X7_seesMan), (140, 3, fx_X1_of), (146, 3, fx_X7_takeNumber), (150, 4, fx_X1_put)]
def xt_X11_readDebt : List (Nat × Nat × xe_F) := []
abbrev xr_X11_readDebt := xe_run xGT xSC xRF 4 xg_X11_readDebt xp_X11_readDebt [] [] xv_X11_readDebt xt_X11_readDebt xi_X11_readDebt
def fx_X11_readDebt : xe_F := fun us hp v hp' => (us.map fun v => v.category).sum ≤ 4 ∧ xe_rt (some .boolean) v ∧ (∃ ar, us = ar ++ [.ref 4]) ∧ ∃ n, xr_X11_readDebt n (0, xe_ag 0 us.reverse, [], hp) v hp'
theorem mk_X11_readDebt  {hp hp' : xe_H} {v : Option Value} (hr : xe_rt (some .boolean) v) (h : ∃ n, xr_X11_readDebt n (0, [(0, .ref 4), (1, .ref 64)], [], hp) v hp') : fx_X11_readDebt [.ref 64, .ref 4] hp v hp' := ⟨Nat.le_of_ble_eq_true rfl, hr, ⟨[.ref 64], rfl⟩, h⟩
theorem hx_X11_readDebt : ∀ us hp v hp', fx_X11_readDebt us hp v hp' → (us.map fun v => v.category).sum ≤ 4 ∧ xe_rt (some .boolean) v ∧ ∃ n, xr_X11_readDebt n (0, xe_ag 0 us.reverse, [], hp) v hp' := fun us hp v hp' h => ⟨h.1, h.2.1, h.2.2.2⟩
theorem fr_X11_readDebt : ∀ us hp v hp', fx_X11_readDebt us hp v hp' → ∃ ar, us = ar ++ [.ref 4] := fun us hp v hp' h => h.2.2.1
set_option maxRecDepth 100000 in
set_option maxHeartbeats 4000000 in
theorem kx_X11_readDebt (l : Launch) (D : va_G) (k : Nat → ClassId) (B0 : Nat) (ad : Nat → Nat) (al sw : Nat) : xe_Con l yX11_readDebt (zw yX11_readDebt cX11_readDebt 4 (some .boolean)) ({ frames := 3, cells := 0, slots := 0, locals := 66 }) D k ad (zEx B0 ad al sw) xGT xSC xRF fx_X11_readDebt := by
  have hEx := zEx_ok B0 ad al sw
  refine xe_mk (cc := cX11_readDebt) (nL := 4) (ret := (some .boolean)) (fg := xg_X11_readDebt) (fp := xp_X11_readDebt) (sg := []) (lc := []) (cv := xv_X11_readDebt) (cs := xt_X11_readDebt) (ins := xi_X11_readDebt) (by decide) rfl hEx (by decide +kernel) hx_X11_readDebt ?_
  intro p e s m args below meth c Q Sg w0 A θ S hK hE hAB hA hth
  refine ⟨?_, ?_, ?_, ?_, ?_, ?_⟩
  · exact zf_ac ((fun H locs ws a q0 fs v rest pc ls hP he hv hdg kk => va_get (D := D) (ci := 9) (C := RX11) (T := TX11) (N := 4) (own := RX11) S.1 S.2.1 S.2.2.2.2 (zg_in inW_X11) S.2.2.2.1 hK hP q0 he rfl 1 (by decide) (S.2.2.2.2 (.fieldLink RX11 20 "RungMoney$TownReader" "debts" "I") (List.mem_cons_of_mem _ zw_200)) (fun _ h9 => h9) hv hdg kk)) (zf_ac ((fun H locs ws a q0 fs v rest pc ls hP he hv hdg kk => va_get (D := D) (ci := 9) (C := RX11) (T := TX11) (N := 4) (own := RX11) S.1 S.2.1 S.2.2.2.2 (zg_in inW_X11) S.2.2.2.1 hK hP q0 he rfl 0 (by decide) (S.2.2.2.2 (.fieldLink RX11 9 "RungMoney$TownReader" "reader" "LRungMoney$Reader;") (List.mem_cons_of_mem _ zw_199)) (fun _ h9 => h9) hv hdg kk)) (zf_ac ((fun H locs ws a q0 fs v rest pc ls hP he hv hdg kk => va_get (D := D) (ci := 5) (C := RX7) (T := TX7) (N := 11) (own := RX11) S.1 S.2.1 S.2.2.2.2 (zg_in inW_X7) S.2.2.2.1 hK hP q0 he rfl 8 (by decide) (S.2.2.2.2 (.fieldLink RX11 119 "RungMoney$Reader" "taken" "I") (List.mem_cons_of_mem _ zw_163)) (fun _ h9 => h9) hv hdg kk)) (zf_ac ((fun H locs ws a q0 fs v rest pc ls hP he hv hdg kk => va_get (D := D) (ci := 8) (C := RX10) (T := TX10) (N := 9) (own := RX11) S.1 S.2.1 S.2.2.2.2 (zg_in inW_X10) S.2.2.2.1 hK hP q0 he rfl 3 (by decide) (S.2.2.2.2 (.fieldLink RX11 137 "RungMoney$Town" "debts" "LRungMoney$Debts;") (List.mem_cons_of_mem _ zw_271)) (fun _ h9 => h9) hv hdg kk)) zf_an)))
  · exact zf_ac ((fun H locs ws a q0 fs v rest pc ls hP hD hS he hl hv hdg kk => by obtain ⟨x, rfl, h1, h2⟩ := hv; exact va_put (D := D) (ci := 9) (v := .int x) (ty := .int) (C := RX11) (T := TX11) (N := 4) (own := RX11) S.1 S.2.1 S.2.2.2.2 (zg_in inW_X11) tyX11 tyX11_ok nmX11 S.2.2.2.1 hK hP hD hS q0 he rfl 1 (by decide) (S.2.2.2.2 (.fieldLink RX11 20 "RungMoney$TownReader" "debts" "I") (List.mem_cons_of_mem _ zw_200)) (fun _ h9 => h9) rfl (by decide +kernel) rfl rfl hl hdg kk)) zf_an
  · exact xe_n2
  · exact xe_n3
  · exact xe_a4 (xe_crV S hEx hE hAB hA hK hth (kx_X7_fail l D k B0 ad al sw) (cwV 1 S.2.2.2.2 (zg_V zw_525 zw_526 zw_527 zw_97 zw_528) rfl rfl rfl (by decide +kernel) ⟨(Nat.le_of_ble_eq_true rfl), (Nat.le_of_ble_eq_true rfl)⟩) ⟨(Nat.le_of_ble_eq_true rfl), (Nat.le_of_ble_eq_true rfl)⟩ 5 rfl rfl 3 (by decide +kernel) fr_X7_fail) (xe_a4 (xe_crV S hEx hE hAB hA hK hth (kx_X7_step l D k B0 ad al sw) (cwV 0 S.2.2.2.2 (zg_V zw_529 zw_494 zw_495 zw_97 zw_496) rfl rfl rfl (by decide +kernel) ⟨(Nat.le_of_ble_eq_true rfl), (Nat.le_of_ble_eq_true rfl)⟩) ⟨(Nat.le_of_ble_eq_true rfl), (Nat.le_of_ble_eq_true rfl)⟩ 5 rfl rfl 3 (by decide +kernel) fr_X7_step) (xe_a4 (xe_crV S hEx hE hAB hA hK hth (kx_X7_takeMan l D k B0 ad al sw) (cwV 1 S.2.2.2.2 (zg_V zw_549 zw_550 zw_551 zw_97 zw_552) rfl rfl rfl (by decide +kernel) ⟨(Nat.le_of_ble_eq_true rfl), (Nat.le_of_ble_eq_true rfl)⟩) ⟨(Nat.le_of_ble_eq_true rfl), (Nat.le_of_ble_eq_true rfl)⟩ 5 rfl rfl 3 (by decide +kernel) fr_X7_takeMan) (xe_a4 (xe_crV S hEx hE hAB hA hK hth (kx_X7_seesMan l D k B0 ad al sw) (cwV 1 S.2.2.2.2 (zg_V zw_578 zw_554 zw_555 zw_97 zw_556) rfl rfl rfl (by decide +kernel) ⟨(Nat.le_of_ble_eq_true rfl), (Nat.le_of_ble_eq_true rfl)⟩) ⟨(Nat.le_of_ble_eq_true rfl), (Nat.le_of_ble_eq_true rfl)⟩ 5 rfl rfl 3 (by decide +kernel) fr_X7_seesMan) (xe_a4 (xe_crV S hEx hE hAB hA hK hth (kx_X1_of l D k B0 ad al sw) (cwV 2 S.2.2.2.2 (zg_V zw_579 zw_580 zw_581 zw_101 zw_582) rfl rfl rfl (by decide +kernel) ⟨(Nat.le_of_ble_eq_true rfl), (Nat.le_of_ble_eq_true rfl)⟩) ⟨(Nat.le_of_ble_eq_true rfl), (Nat.le_of_ble_eq_true rfl)⟩ 0 rfl rfl 72 (by decide +kernel) fr_X1_of) (xe_a4 (xe_crV S hEx hE hAB hA hK hth (kx_X7_takeNumber l D k B0 ad al sw) (cwV 2 S.2.2.2.2 (zg_V zw_586 zw_587 zw_588 zw_97 zw_589) rfl rfl rfl (by decide +kernel) ⟨(Nat.le_of_ble_eq_true rfl), (Nat.le_of_ble_eq_true rfl)⟩) ⟨(Nat.le_of_ble_eq_true rfl), (Nat.le_of_ble_eq_true rfl)⟩ 5 rfl rfl 3 (by decide +kernel) fr_X7_takeNumber) (xe_a4 (xe_crV S hEx hE hAB hA hK hth (kx_X1_put l D k B0 ad al sw) (cwV 3 S.2.2.2.2 (zg_V zw_590 zw_591 zw_592 zw_101 zw_593) rfl rfl rfl (by decide +kernel) ⟨(Nat.le_of_ble_eq_true rfl), (Nat.le_of_ble_eq_true rfl)⟩) ⟨(Nat.le_of_ble_eq_true rfl), (Nat.le_of_ble_eq_true rfl)⟩ 0 rfl rfl 72 (by decide +kernel) fr_X1_put) xe_n4))))))
  · exact xe_n4
set_option maxRecDepth 100000 in
theorem pt_X11_readDebt_0 {I I1 I2 I3 I4 : Nat → Nat → Int32} {L L1 L2 L3 L4 : Nat → Nat → Int64} (h1 : (xe_cmp .lt (I 4 1) (20 : Int32)) = true) (c1 : fx_X7_step [.ref 3] ((xu I 4 1 ((I 4 1) + (1 : Int32))), L) none (I1, L1)) (c2 : fx_X7_takeMan [.ref 64, .ref 3] (I1, L1) (some (.int 1)) (I2, L2)) (c3 : fx_X7_seesMan [.ref 64, .ref 3] (I2, L2) (some (.int 1)) (I3, L3)) (h2 : (xe_cmp .eq (I2 3 8) (I3 3 8)) = true) (c4 : fx_X7_fail [.int (3 : Int32), .ref 3] (I3, L3) (some (.int 0)) (I4, L4)) : ∃ n, xr_X11_readDebt n (0, [(0, .ref 4), (1, .ref 64)], [], (I, L)) (some (.int 0)) (I4, L4) := by
  refine xe_bT 3 (A := (18, [(0, .ref 4), (1, .ref 64)], [], (I, L))) (B := (9, [(0, .ref 4), (1, .ref 64)], [], (I, L))) h1 rfl ?_
  refine xe_go 7 (s' := (32, [(0, .ref 4), (1, .ref 64)], [.ref 3], ((xu I 4 1 ((I 4 1) + (1 : Int32))), L))) rfl ?_
  refine xe_vir (n := 1) (f := fx_X7_step) rfl (Nat.le_of_ble_eq_true rfl) (List.mem_of_getElem? (i := 1) rfl) (Nat.le_of_ble_eq_true rfl) c1 ?_
  refine xe_go 2 (s' := (40, [(0, .ref 4), (1, .ref 64)], [.ref 64, .ref 3], (I1, L1))) rfl ?_
  refine xe_vir (n := 2) (f := fx_X7_takeMan) rfl (Nat.le_of_ble_eq_true rfl) (List.mem_of_getElem? (i := 2) rfl) (Nat.le_of_ble_eq_true rfl) c2 ?_
  refine xe_go 7 (s' := (61, [(0, .ref 4), (1, .ref 64), (2, .int (I2 3 8))], [.ref 64, .ref 3], (I2, L2))) rfl ?_
  refine xe_vir (n := 2) (f := fx_X7_seesMan) rfl (Nat.le_of_ble_eq_true rfl) (List.mem_of_getElem? (i := 3) rfl) (Nat.le_of_ble_eq_true rfl) c3 ?_
  refine xe_bT 7 (A := (94, [(0, .ref 4), (1, .ref 64), (2, .int (I2 3 8)), (3, .int (I3 3 8))], [], (I3, L3))) (B := (82, [(0, .ref 4), (1, .ref 64), (2, .int (I2 3 8)), (3, .int (I3 3 8))], [], (I3, L3))) h2 rfl ?_
  refine xe_go 2 (s' := (99, [(0, .ref 4), (1, .ref 64), (2, .int (I2 3 8)), (3, .int (I3 3 8))], [.int (3 : Int32), .ref 3], (I3, L3))) rfl ?_
  refine xe_vir (n := 2) (f := fx_X7_fail) rfl (Nat.le_of_ble_eq_true rfl) (List.mem_of_getElem? (i := 0) rfl) (Nat.le_of_ble_eq_true rfl) c4 ?_
  exact xe_end rfl rfl rfl
set_option maxRecDepth 100000 in
theorem pt_X11_readDebt_1 {I I1 I2 I3 I4 I5 I6 I7 : Nat → Nat → Int32} {L L1 L2 L3 L4 L5 L6 L7 : Nat → Nat → Int64} {r4 : Int32} (h1 : (xe_cmp .lt (I 4 1) (20 : Int32)) = true) (c1 : fx_X7_step [.ref 3] ((xu I 4 1 ((I 4 1) + (1 : Int32))), L) none (I1, L1)) (c2 : fx_X7_takeMan [.ref 64, .ref 3] (I1, L1) (some (.int 1)) (I2, L2)) (c3 : fx_X7_seesMan [.ref 64, .ref 3] (I2, L2) (some (.int 1)) (I3, L3)) (h2 : (xe_cmp .eq (I2 3 8) (I3 3 8)) = false) (c4 : fx_X1_of [.int (I3 3 8), .int (I2 3 8), .ref 72] (I3, L3) (some (.int r4)) (I4, L4)) (h3 : (xe_cmp .eq r4 0) = true) (c5 : fx_X7_step [.ref 3] (I4, L4) none (I5, L5)) (c6 : fx_X7_takeNumber [.int (250 : Int32), .int (1 : Int32), .ref 3] (I5, L5) (some (.int 1)) (I6, L6)) (c7 : fx_X1_put [.int (I6 3 8), .int (I3 3 8), .int (I2 3 8), .ref 72] (I6, L6) none (I7, L7)) : ∃ n, xr_X11_readDebt n (0, [(0, .ref 4), (1, .ref 64)], [], (I, L)) (some (.int (1 : Int32))) (I7, L7) := by
  refine xe_bT 3 (A := (18, [(0, .ref 4), (1, .ref 64)], [], (I, L))) (B := (9, [(0, .ref 4), (1, .ref 64)], [], (I, L))) h1 rfl ?_
  refine xe_go 7 (s' := (32, [(0, .ref 4), (1, .ref 64)], [.ref 3], ((xu I 4 1 ((I 4 1) + (1 : Int32))), L))) rfl ?_
  refine xe_vir (n := 1) (f := fx_X7_step) rfl (Nat.le_of_ble_eq_true rfl) (List.mem_of_getElem? (i := 1) rfl) (Nat.le_of_ble_eq_true rfl) c1 ?_
  refine xe_go 2 (s' := (40, [(0, .ref 4), (1, .ref 64)], [.ref 64, .ref 3], (I1, L1))) rfl ?_
  refine xe_vir (n := 2) (f := fx_X7_takeMan) rfl (Nat.le_of_ble_eq_true rfl) (List.mem_of_getElem? (i := 2) rfl) (Nat.le_of_ble_eq_true rfl) c2 ?_
  refine xe_go 7 (s' := (61, [(0, .ref 4), (1, .ref 64), (2, .int (I2 3 8))], [.ref 64, .ref 3], (I2, L2))) rfl ?_
  refine xe_vir (n := 2) (f := fx_X7_seesMan) rfl (Nat.le_of_ble_eq_true rfl) (List.mem_of_getElem? (i := 3) rfl) (Nat.le_of_ble_eq_true rfl) c3 ?_
  refine xe_bF 7 (A := (94, [(0, .ref 4), (1, .ref 64), (2, .int (I2 3 8)), (3, .int (I3 3 8))], [], (I3, L3))) (B := (82, [(0, .ref 4), (1, .ref 64), (2, .int (I2 3 8)), (3, .int (I3 3 8))], [], (I3, L3))) h2 rfl ?_
  refine xe_go 3 (s' := (88, [(0, .ref 4), (1, .ref 64), (2, .int (I2 3 8)), (3, .int (I3 3 8))], [.int (I3 3 8), .int (I2 3 8), .ref 72], (I3, L3))) rfl ?_
  refine xe_vir (n := 3) (f := fx_X1_of) rfl (Nat.le_of_ble_eq_true rfl) (List.mem_of_getElem? (i := 4) rfl) (Nat.le_of_ble_eq_true rfl) c4 ?_
  refine xe_bT 0 (A := (103, [(0, .ref 4), (1, .ref 64), (2, .int (I2 3 8)), (3, .int (I3 3 8))], [], (I4, L4))) (B := (94, [(0, .ref 4), (1, .ref 64), (2, .int (I2 3 8)), (3, .int (I3 3 8))], [], (I4, L4))) h3 rfl ?_
  refine xe_go 1 (s' := (107, [(0, .ref 4), (1, .ref 64), (2, .int (I2 3 8)), (3, .int (I3 3 8))], [.ref 3], (I4, L4))) rfl ?_
  refine xe_vir (n := 1) (f := fx_X7_step) rfl (Nat.le_of_ble_eq_true rfl) (List.mem_of_getElem? (i := 1) rfl) (Nat.le_of_ble_eq_true rfl) c5 ?_
  refine xe_go 3 (s' := (118, [(0, .ref 4), (1, .ref 64), (2, .int (I2 3 8)), (3, .int (I3 3 8))], [.int (250 : Int32), .int (1 : Int32), .ref 3], (I5, L5))) rfl ?_
  refine xe_vir (n := 3) (f := fx_X7_takeNumber) rfl (Nat.le_of_ble_eq_true rfl) (List.mem_of_getElem? (i := 5) rfl) (Nat.le_of_ble_eq_true rfl) c6 ?_
  refine xe_go 7 (s' := (139, [(0, .ref 4), (1, .ref 64), (2, .int (I2 3 8)), (3, .int (I3 3 8))], [.int (I6 3 8), .int (I3 3 8), .int (I2 3 8), .ref 72], (I6, L6))) rfl ?_
  refine xe_vir (n := 4) (f := fx_X1_put) rfl (Nat.le_of_ble_eq_true rfl) (List.mem_of_getElem? (i := 6) rfl) (Nat.le_of_ble_eq_true rfl) c7 ?_
  refine xe_go 0 (s' := (143, [(0, .ref 4), (1, .ref 64), (2, .int (I2 3 8)), (3, .int (I3 3 8))], [.int (1 : Int32)], (I7, L7))) rfl ?_
  exact xe_end rfl rfl rfl
set_option maxRecDepth 100000 in
theorem pt_X11_readDebt_2 {I I1 I2 I3 I4 I5 I6 : Nat → Nat → Int32} {L L1 L2 L3 L4 L5 L6 : Nat → Nat → Int64} {r4 : Int32} (h1 : (xe_cmp .lt (I 4 1) (20 : Int32)) = true) (c1 : fx_X7_step [.ref 3] ((xu I 4 1 ((I 4 1) + (1 : Int32))), L) none (I1, L1)) (c2 : fx_X7_takeMan [.ref 64, .ref 3] (I1, L1) (some (.int 1)) (I2, L2)) (c3 : fx_X7_seesMan [.ref 64, .ref 3] (I2, L2) (some (.int 1)) (I3, L3)) (h2 : (xe_cmp .eq (I2 3 8) (I3 3 8)) = false) (c4 : fx_X1_of [.int (I3 3 8), .int (I2 3 8), .ref 72] (I3, L3) (some (.int r4)) (I4, L4)) (h3 : (xe_cmp .eq r4 0) = true) (c5 : fx_X7_step [.ref 3] (I4, L4) none (I5, L5)) (c6 : fx_X7_takeNumber [.int (250 : Int32), .int (1 : Int32), .ref 3] (I5, L5) (some (.int 0)) (I6, L6)) : ∃ n, xr_X11_readDebt n (0, [(0, .ref 4), (1, .ref 64)], [], (I, L)) (some (.int (0 : Int32))) (I6, L6) := by
  refine xe_bT 3 (A := (18, [(0, .ref 4), (1, .ref 64)], [], (I, L))) (B := (9, [(0, .ref 4), (1, .ref 64)], [], (I, L))) h1 rfl ?_
  refine xe_go 7 (s' := (32, [(0, .ref 4), (1, .ref 64)], [.ref 3], ((xu I 4 1 ((I 4 1) + (1 : Int32))), L))) rfl ?_
  refine xe_vir (n := 1) (f := fx_X7_step) rfl (Nat.le_of_ble_eq_true rfl) (List.mem_of_getElem? (i := 1) rfl) (Nat.le_of_ble_eq_true rfl) c1 ?_
  refine xe_go 2 (s' := (40, [(0, .ref 4), (1, .ref 64)], [.ref 64, .ref 3], (I1, L1))) rfl ?_
  refine xe_vir (n := 2) (f := fx_X7_takeMan) rfl (Nat.le_of_ble_eq_true rfl) (List.mem_of_getElem? (i := 2) rfl) (Nat.le_of_ble_eq_true rfl) c2 ?_
  refine xe_go 7 (s' := (61, [(0, .ref 4), (1, .ref 64), (2, .int (I2 3 8))], [.ref 64, .ref 3], (I2, L2))) rfl ?_
  refine xe_vir (n := 2) (f := fx_X7_seesMan) rfl (Nat.le_of_ble_eq_true rfl) (List.mem_of_getElem? (i := 3) rfl) (Nat.le_of_ble_eq_true rfl) c3 ?_
  refine xe_bF 7 (A := (94, [(0, .ref 4), (1, .ref 64), (2, .int (I2 3 8)), (3, .int (I3 3 8))], [], (I3, L3))) (B := (82, [(0, .ref 4), (1, .ref 64), (2, .int (I2 3 8)), (3, .int (I3 3 8))], [], (I3, L3))) h2 rfl ?_
  refine xe_go 3 (s' := (88, [(0, .ref 4), (1, .ref 64), (2, .int (I2 3 8)), (3, .int (I3 3 8))], [.int (I3 3 8), .int (I2 3 8), .ref 72], (I3, L3))) rfl ?_
  refine xe_vir (n := 3) (f := fx_X1_of) rfl (Nat.le_of_ble_eq_true rfl) (List.mem_of_getElem? (i := 4) rfl) (Nat.le_of_ble_eq_true rfl) c4 ?_
  refine xe_bT 0 (A := (103, [(0, .ref 4), (1, .ref 64), (2, .int (I2 3 8)), (3, .int (I3 3 8))], [], (I4, L4))) (B := (94, [(0, .ref 4), (1, .ref 64), (2, .int (I2 3 8)), (3, .int (I3 3 8))], [], (I4, L4))) h3 rfl ?_
  refine xe_go 1 (s' := (107, [(0, .ref 4), (1, .ref 64), (2, .int (I2 3 8)), (3, .int (I3 3 8))], [.ref 3], (I4, L4))) rfl ?_
  refine xe_vir (n := 1) (f := fx_X7_step) rfl (Nat.le_of_ble_eq_true rfl) (List.mem_of_getElem? (i := 1) rfl) (Nat.le_of_ble_eq_true rfl) c5 ?_
  refine xe_go 3 (s' := (118, [(0, .ref 4), (1, .ref 64), (2, .int (I2 3 8)), (3, .int (I3 3 8))], [.int (250 : Int32), .int (1 : Int32), .ref 3], (I5, L5))) rfl ?_
  refine xe_vir (n := 3) (f := fx_X7_takeNumber) rfl (Nat.le_of_ble_eq_true rfl) (List.mem_of_getElem? (i := 5) rfl) (Nat.le_of_ble_eq_true rfl) c6 ?_
  refine xe_go 1 (s' := (125, [(0, .ref 4), (1, .ref 64), (2, .int (I2 3 8)), (3, .int (I3 3 8))], [.int (0 : Int32)], (I6, L6))) rfl ?_
  exact xe_end rfl rfl rfl
set_option maxRecDepth 100000 in
theorem pt_X11_readDebt_3 {I I1 I2 I3 I4 I5 : Nat → Nat → Int32} {L L1 L2 L3 L4 L5 : Nat → Nat → Int64} {r4 : Int32} (h1 : (xe_cmp .lt (I 4 1) (20 : Int32)) = true) (c1 : fx_X7_step [.ref 3] ((xu I 4 1 ((I 4 1) + (1 : Int32))), L) none (I1, L1)) (c2 : fx_X7_takeMan [.ref 64, .ref 3] (I1, L1) (some (.int 1)) (I2, L2)) (c3 : fx_X7_seesMan [.ref 64, .ref 3] (I2, L2) (some (.int 1)) (I3, L3)) (h2 : (xe_cmp .eq (I2 3 8) (I3 3 8)) = false) (c4 : fx_X1_of [.int (I3 3 8), .int (I2 3 8), .ref 72] (I3, L3) (some (.int r4)) (I4, L4)) (h3 : (xe_cmp .eq r4 0) = false) (c5 : fx_X7_fail [.int (3 : Int32), .ref 3] (I4, L4) (some (.int 0)) (I5, L5)) : ∃ n, xr_X11_readDebt n (0, [(0, .ref 4), (1, .ref 64)], [], (I, L)) (some (.int 0)) (I5, L5) := by
  refine xe_bT 3 (A := (18, [(0, .ref 4), (1, .ref 64)], [], (I, L))) (B := (9, [(0, .ref 4), (1, .ref 64)], [], (I, L))) h1 rfl ?_
  refine xe_go 7 (s' := (32, [(0, .ref 4), (1, .ref 64)], [.ref 3], ((xu I 4 1 ((I 4 1) + (1 : Int32))), L))) rfl ?_
  refine xe_vir (n := 1) (f := fx_X7_step) rfl (Nat.le_of_ble_eq_true rfl) (List.mem_of_getElem? (i := 1) rfl) (Nat.le_of_ble_eq_true rfl) c1 ?_
  refine xe_go 2 (s' := (40, [(0, .ref 4), (1, .ref 64)], [.ref 64, .ref 3], (I1, L1))) rfl ?_
  refine xe_vir (n := 2) (f := fx_X7_takeMan) rfl (Nat.le_of_ble_eq_true rfl) (List.mem_of_getElem? (i := 2) rfl) (Nat.le_of_ble_eq_true rfl) c2 ?_
  refine xe_go 7 (s' := (61, [(0, .ref 4), (1, .ref 64), (2, .int (I2 3 8))], [.ref 64, .ref 3], (I2, L2))) rfl ?_
  refine xe_vir (n := 2) (f := fx_X7_seesMan) rfl (Nat.le_of_ble_eq_true rfl) (List.mem_of_getElem? (i := 3) rfl) (Nat.le_of_ble_eq_true rfl) c3 ?_
  refine xe_bF 7 (A := (94, [(0, .ref 4), (1, .ref 64), (2, .int (I2 3 8)), (3, .int (I3 3 8))], [], (I3, L3))) (B := (82, [(0, .ref 4), (1, .ref 64), (2, .int (I2 3 8)), (3, .int (I3 3 8))], [], (I3, L3))) h2 rfl ?_
  refine xe_go 3 (s' := (88, [(0, .ref 4), (1, .ref 64), (2, .int (I2 3 8)), (3, .int (I3 3 8))], [.int (I3 3 8), .int (I2 3 8), .ref 72], (I3, L3))) rfl ?_
  refine xe_vir (n := 3) (f := fx_X1_of) rfl (Nat.le_of_ble_eq_true rfl) (List.mem_of_getElem? (i := 4) rfl) (Nat.le_of_ble_eq_true rfl) c4 ?_
  refine xe_bF 0 (A := (103, [(0, .ref 4), (1, .ref 64), (2, .int (I2 3 8)), (3, .int (I3 3 8))], [], (I4, L4))) (B := (94, [(0, .ref 4), (1, .ref 64), (2, .int (I2 3 8)), (3, .int (I3 3 8))], [], (I4, L4))) h3 rfl ?_
  refine xe_go 2 (s' := (99, [(0, .ref 4), (1, .ref 64), (2, .int (I2 3 8)), (3, .int (I3 3 8))], [.int (3 : Int32), .ref 3], (I4, L4))) rfl ?_
  refine xe_vir (n := 2) (f := fx_X7_fail) rfl (Nat.le_of_ble_eq_true rfl) (List.mem_of_getElem? (i := 0) rfl) (Nat.le_of_ble_eq_true rfl) c5 ?_
  exact xe_end rfl rfl rfl
set_option maxRecDepth 100000 in
theorem pt_X11_readDebt_4 {I I1 I2 I3 : Nat → Nat → Int32} {L L1 L2 L3 : Nat → Nat → Int64} (h1 : (xe_cmp .lt (I 4 1) (20 : Int32)) = true) (c1 : fx_X7_step [.ref 3] ((xu I 4 1 ((I 4 1) + (1 : Int32))), L) none (I1, L1)) (c2 : fx_X7_takeMan [.ref 64, .ref 3] (I1, L1) (some (.int 1)) (I2, L2)) (c3 : fx_X7_seesMan [.ref 64, .ref 3] (I2, L2) (some (.int 0)) (I3, L3)) : ∃ n, xr_X11_readDebt n (0, [(0, .ref 4), (1, .ref 64)], [], (I, L)) (some (.int (0 : Int32))) (I3, L3) := by
  refine xe_bT 3 (A := (18, [(0, .ref 4), (1, .ref 64)], [], (I, L))) (B := (9, [(0, .ref 4), (1, .ref 64)], [], (I, L))) h1 rfl ?_
  refine xe_go 7 (s' := (32, [(0, .ref 4), (1, .ref 64)], [.ref 3], ((xu I 4 1 ((I 4 1) + (1 : Int32))), L))) rfl ?_
  refine xe_vir (n := 1) (f := fx_X7_step) rfl (Nat.le_of_ble_eq_true rfl) (List.mem_of_getElem? (i := 1) rfl) (Nat.le_of_ble_eq_true rfl) c1 ?_
  refine xe_go 2 (s' := (40, [(0, .ref 4), (1, .ref 64)], [.ref 64, .ref 3], (I1, L1))) rfl ?_
  refine xe_vir (n := 2) (f := fx_X7_takeMan) rfl (Nat.le_of_ble_eq_true rfl) (List.mem_of_getElem? (i := 2) rfl) (Nat.le_of_ble_eq_true rfl) c2 ?_
  refine xe_go 7 (s' := (61, [(0, .ref 4), (1, .ref 64), (2, .int (I2 3 8))], [.ref 64, .ref 3], (I2, L2))) rfl ?_
  refine xe_vir (n := 2) (f := fx_X7_seesMan) rfl (Nat.le_of_ble_eq_true rfl) (List.mem_of_getElem? (i := 3) rfl) (Nat.le_of_ble_eq_true rfl) c3 ?_
  refine xe_go 1 (s' := (68, [(0, .ref 4), (1, .ref 64), (2, .int (I2 3 8))], [.int (0 : Int32)], (I3, L3))) rfl ?_
  exact xe_end rfl rfl rfl
set_option maxRecDepth 100000 in
theorem pt_X11_readDebt_5 {I I1 I2 : Nat → Nat → Int32} {L L1 L2 : Nat → Nat → Int64} (h1 : (xe_cmp .lt (I 4 1) (20 : Int32)) = true) (c1 : fx_X7_step [.ref 3] ((xu I 4 1 ((I 4 1) + (1 : Int32))), L) none (I1, L1)) (c2 : fx_X7_takeMan [.ref 64, .ref 3] (I1, L1) (some (.int 0)) (I2, L2)) : ∃ n, xr_X11_readDebt n (0, [(0, .ref 4), (1, .ref 64)], [], (I, L)) (some (.int (0 : Int32))) (I2, L2) := by
  refine xe_bT 3 (A := (18, [(0, .ref 4), (1, .ref 64)], [], (I, L))) (B := (9, [(0, .ref 4), (1, .ref 64)], [], (I, L))) h1 rfl ?_
  refine xe_go 7 (s' := (32, [(0, .ref 4), (1, .ref 64)], [.ref 3], ((xu I 4 1 ((I 4 1) + (1 : Int32))), L))) rfl ?_
  refine xe_vir (n := 1) (f := fx_X7_step) rfl (Nat.le_of_ble_eq_true rfl) (List.mem_of_getElem? (i := 1) rfl) (Nat.le_of_ble_eq_true rfl) c1 ?_
  refine xe_go 2 (s' := (40, [(0, .ref 4), (1, .ref 64)], [.ref 64, .ref 3], (I1, L1))) rfl ?_
  refine xe_vir (n := 2) (f := fx_X7_takeMan) rfl (Nat.le_of_ble_eq_true rfl) (List.mem_of_getElem? (i := 2) rfl) (Nat.le_of_ble_eq_true rfl) c2 ?_
  refine xe_go 1 (s' := (47, [(0, .ref 4), (1, .ref 64)], [.int (0 : Int32)], (I2, L2))) rfl ?_
  exact xe_end rfl rfl rfl
set_option maxRecDepth 100000 in
theorem pt_X11_readDebt_6 {I I1 : Nat → Nat → Int32} {L L1 : Nat → Nat → Int64} (h1 : (xe_cmp .lt (I 4 1) (20 : Int32)) = false) (c1 : fx_X7_fail [.int (4 : Int32), .ref 3] (I, L) (some (.int 0)) (I1, L1)) : ∃ n, xr_X11_readDebt n (0, [(0, .ref 4), (1, .ref 64)], [], (I, L)) (some (.int 0)) (I1, L1) := by
  refine xe_bF 3 (A := (18, [(0, .ref 4), (1, .ref 64)], [], (I, L))) (B := (9, [(0, .ref 4), (1, .ref 64)], [], (I, L))) h1 rfl ?_
  refine xe_go 2 (s' := (14, [(0, .ref 4), (1, .ref 64)], [.int (4 : Int32), .ref 3], (I, L))) rfl ?_
  refine xe_vir (n := 2) (f := fx_X7_fail) rfl (Nat.le_of_ble_eq_true rfl) (List.mem_of_getElem? (i := 0) rfl) (Nat.le_of_ble_eq_true rfl) c1 ?_
  exact xe_end rfl rfl rfl
def xi_X11_readRot : List (Nat × Nat × Instr) := [(0, 1, .aload_n 0), (1, 3, .getfield 24), (4, 3, .ifCond .eq 12), (7, 1, .aload_n 0), (8, 3, .getfield 9), (11, 1, .iconst 3), (12, 3, .invokevirtual 79), (15, 1, .ireturn), (16, 1, .aload_n 0), (17, 1, .iconst 1), (18, 3, .putfield 24), (21, 1, .aload_n 0), (22, 3, .getfield 9), (25, 3, .invokevirtual 85), (28, 1, .aload_n 0), (29, 3, .getfield 9), (32, 1, .iconst 0), (33, 2, .bipush 12), (35, 3, .invokevirtual 146), (38, 3, .ifCond .ne 5), (41, 1, .iconst 0), (42, 1, .ireturn), (43, 1, .aload_n 1), (44, 1, .aload_n 0), (45, 3, .getfield 9), (48, 3, .getfield 119), (51, 3, .putfield 154), (54, 1, .iconst 1), (55, 1, .ireturn)]
def xg_X11_readRot : zf_ft := [(24, 9, 2, .inl (0, 0)), (9, 9, 0, .inl (0, 0)), (119, 5, 8, .inl (0, 0))]
def xp_X11_readRot : zf_ft := [(24, 9, 2, .inl (0, 1)), (154, 8, 5, .inl ((-2147483648), 2147483647))]
def xv_X11_readRot : List (Nat × Nat × xe_F) := [(79, 2, fx_X7_fail), (85, 1, fx_X7_step), (146, 3, fx_X7_takeNumber)]
def xt_X11_readRot : List (Nat × Nat × xe_F) := []
abbrev xr_X11_readRot := xe_run xGT xSC xRF 2 xg_X11_readRot xp_X11_readRot [] [] xv_X11_readRot xt_X11_readRot xi_X11_readRot
def fx_X11_readRot : xe_F := fun us hp v hp' => (us.map fun v => v.category).sum ≤ 2 ∧ xe_rt (some .boolean) v ∧ (∃ ar, us = ar ++ [.ref 4]) ∧ ∃ n, xr_X11_readRot n (0, xe_ag 0 us.reverse, [], hp) v hp'
theorem mk_X11_readRot  {hp hp' : xe_H} {v : Option Value} (hr : xe_rt (some .boolean) v) (h : ∃ n, xr_X11_readRot n (0, [(0, .ref 4), (1, .ref 64)], [], hp) v hp') : fx_X11_readRot [.ref 64, .ref 4] hp v hp' := ⟨Nat.le_of_ble_eq_true rfl, hr, ⟨[.ref 64], rfl⟩, h⟩
theorem hx_X11_readRot : ∀ us hp v hp', fx_X11_readRot us hp v hp' → (us.map fun v => v.category).sum ≤ 2 ∧ xe_rt (some .boolean) v ∧ ∃ n, xr_X11_readRot n (0, xe_ag 0 us.reverse, [], hp) v hp' := fun us hp v hp' h => ⟨h.1, h.2.1, h.2.2.2⟩
theorem fr_X11_readRot : ∀ us hp v hp', fx_X11_readRot us hp v hp' → ∃ ar, us = ar ++ [.ref 4] := fun us hp v hp' h => h.2.2.1
set_option maxRecDepth 100000 in
set_option maxHeartbeats 4000000 in
theorem kx_X11_readRot (l : Launch) (D : va_G) (k : Nat → ClassId) (B0 : Nat) (ad : Nat → Nat) (al sw : Nat) : xe_Con l yX11_readRot (zw yX11_readRot cX11_readRot 2 (some .boolean)) ({ frames := 3, cells := 0, slots := 0, locals := 66 }) D k ad (zEx B0 ad al sw) xGT xSC xRF fx_X11_readRot := by
  have hEx := zEx_ok B0 ad al sw
  refine xe_mk (cc := cX11_readRot) (nL := 2) (ret := (some .boolean)) (fg := xg_X11_readRot) (fp := xp_X11_readRot) (sg := []) (lc := []) (cv := xv_X11_readRot) (cs := xt_X11_readRot) (ins := xi_X11_readRot) (by decide) rfl hEx (by decide +kernel) hx_X11_readRot ?_
  intro p e s m args below meth c Q Sg w0 A θ S hK hE hAB hA hth
  refine ⟨?_, ?_, ?_, ?_, ?_, ?_⟩
  · exact zf_ac ((fun H locs ws a q0 fs v rest pc ls hP he hv hdg kk => va_get (D := D) (ci := 9) (C := RX11) (T := TX11) (N := 4) (own := RX11) S.1 S.2.1 S.2.2.2.2 (zg_in inW_X11) S.2.2.2.1 hK hP q0 he rfl 2 (by decide) (S.2.2.2.2 (.fieldLink RX11 24 "RungMoney$TownReader" "rotTold" "Z") (List.mem_cons_of_mem _ zw_201)) (fun _ h9 => h9) hv hdg kk)) (zf_ac ((fun H locs ws a q0 fs v rest pc ls hP he hv hdg kk => va_get (D := D) (ci := 9) (C := RX11) (T := TX11) (N := 4) (own := RX11) S.1 S.2.1 S.2.2.2.2 (zg_in inW_X11) S.2.2.2.1 hK hP q0 he rfl 0 (by decide) (S.2.2.2.2 (.fieldLink RX11 9 "RungMoney$TownReader" "reader" "LRungMoney$Reader;") (List.mem_cons_of_mem _ zw_199)) (fun _ h9 => h9) hv hdg kk)) (zf_ac ((fun H locs ws a q0 fs v rest pc ls hP he hv hdg kk => va_get (D := D) (ci := 5) (C := RX7) (T := TX7) (N := 11) (own := RX11) S.1 S.2.1 S.2.2.2.2 (zg_in inW_X7) S.2.2.2.1 hK hP q0 he rfl 8 (by decide) (S.2.2.2.2 (.fieldLink RX11 119 "RungMoney$Reader" "taken" "I") (List.mem_cons_of_mem _ zw_163)) (fun _ h9 => h9) hv hdg kk)) zf_an))
  · exact zf_ac ((fun H locs ws a q0 fs v rest pc ls hP hD hS he hl hv hdg kk => by obtain ⟨x, rfl, h1, h2⟩ := hv; rcases zf_01 h1 h2 with rfl | rfl <;> exact va_put (D := D) (ci := 9) (v := .int _) (ty := .boolean) (C := RX11) (T := TX11) (N := 4) (own := RX11) S.1 S.2.1 S.2.2.2.2 (zg_in inW_X11) tyX11 tyX11_ok nmX11 S.2.2.2.1 hK hP hD hS q0 he rfl 2 (by decide) (S.2.2.2.2 (.fieldLink RX11 24 "RungMoney$TownReader" "rotTold" "Z") (List.mem_cons_of_mem _ zw_201)) (fun _ h9 => h9) rfl (by decide +kernel) rfl rfl hl hdg kk)) (zf_ac ((fun H locs ws a q0 fs v rest pc ls hP hD hS he hl hv hdg kk => by obtain ⟨x, rfl, h1, h2⟩ := hv; exact va_put (D := D) (ci := 8) (v := .int x) (ty := .int) (C := RX10) (T := TX10) (N := 9) (own := RX11) S.1 S.2.1 S.2.2.2.2 (zg_in inW_X10) tyX10 tyX10_ok nmX10 S.2.2.2.1 hK hP hD hS q0 he rfl 5 (by decide) (S.2.2.2.2 (.fieldLink RX11 154 "RungMoney$Town" "rot" "I") (List.mem_cons_of_mem _ zw_276)) (fun _ h9 => h9) rfl (by decide +kernel) rfl rfl hl hdg kk)) zf_an)
  · exact xe_n2
  · exact xe_n3
  · exact xe_a4 (xe_crV S hEx hE hAB hA hK hth (kx_X7_fail l D k B0 ad al sw) (cwV 1 S.2.2.2.2 (zg_V zw_525 zw_526 zw_527 zw_97 zw_528) rfl rfl rfl (by decide +kernel) ⟨(Nat.le_of_ble_eq_true rfl), (Nat.le_of_ble_eq_true rfl)⟩) ⟨(Nat.le_of_ble_eq_true rfl), (Nat.le_of_ble_eq_true rfl)⟩ 5 rfl rfl 3 (by decide +kernel) fr_X7_fail) (xe_a4 (xe_crV S hEx hE hAB hA hK hth (kx_X7_step l D k B0 ad al sw) (cwV 0 S.2.2.2.2 (zg_V zw_529 zw_494 zw_495 zw_97 zw_496) rfl rfl rfl (by decide +kernel) ⟨(Nat.le_of_ble_eq_true rfl), (Nat.le_of_ble_eq_true rfl)⟩) ⟨(Nat.le_of_ble_eq_true rfl), (Nat.le_of_ble_eq_true rfl)⟩ 5 rfl rfl 3 (by decide +kernel) fr_X7_step) (xe_a4 (xe_crV S hEx hE hAB hA hK hth (kx_X7_takeNumber l D k B0 ad al sw) (cwV 2 S.2.2.2.2 (zg_V zw_586 zw_587 zw_588 zw_97 zw_589) rfl rfl rfl (by decide +kernel) ⟨(Nat.le_of_ble_eq_true rfl), (Nat.le_of_ble_eq_true rfl)⟩) ⟨(Nat.le_of_ble_eq_true rfl), (Nat.le_of_ble_eq_true rfl)⟩ 5 rfl rfl 3 (by decide +kernel) fr_X7_takeNumber) xe_n4))
  · exact xe_n4
set_option maxRecDepth 100000 in
theorem pt_X11_readRot_0 {I I1 I2 : Nat → Nat → Int32} {L L1 L2 : Nat → Nat → Int64} (h1 : (xe_cmp .eq (I 4 2) 0) = true) (c1 : fx_X7_step [.ref 3] ((xu I 4 2 (1 : Int32)), L) none (I1, L1)) (c2 : fx_X7_takeNumber [.int (12 : Int32), .int (0 : Int32), .ref 3] (I1, L1) (some (.int 1)) (I2, L2)) : ∃ n, xr_X11_readRot n (0, [(0, .ref 4), (1, .ref 64)], [], (I, L)) (some (.int (1 : Int32))) ((xu I2 64 5 (I2 3 8)), L2) := by
  refine xe_bT 2 (A := (16, [(0, .ref 4), (1, .ref 64)], [], (I, L))) (B := (7, [(0, .ref 4), (1, .ref 64)], [], (I, L))) h1 rfl ?_
  refine xe_go 4 (s' := (25, [(0, .ref 4), (1, .ref 64)], [.ref 3], ((xu I 4 2 (1 : Int32)), L))) rfl ?_
  refine xe_vir (n := 1) (f := fx_X7_step) rfl (Nat.le_of_ble_eq_true rfl) (List.mem_of_getElem? (i := 1) rfl) (Nat.le_of_ble_eq_true rfl) c1 ?_
  refine xe_go 3 (s' := (35, [(0, .ref 4), (1, .ref 64)], [.int (12 : Int32), .int (0 : Int32), .ref 3], (I1, L1))) rfl ?_
  refine xe_vir (n := 3) (f := fx_X7_takeNumber) rfl (Nat.le_of_ble_eq_true rfl) (List.mem_of_getElem? (i := 2) rfl) (Nat.le_of_ble_eq_true rfl) c2 ?_
  refine xe_go 6 (s' := (55, [(0, .ref 4), (1, .ref 64)], [.int (1 : Int32)], ((xu I2 64 5 (I2 3 8)), L2))) rfl ?_
  exact xe_end rfl rfl rfl
set_option maxRecDepth 100000 in
theorem pt_X11_readRot_1 {I I1 I2 : Nat → Nat → Int32} {L L1 L2 : Nat → Nat → Int64} (h1 : (xe_cmp .eq (I 4 2) 0) = true) (c1 : fx_X7_step [.ref 3] ((xu I 4 2 (1 : Int32)), L) none (I1, L1)) (c2 : fx_X7_takeNumber [.int (12 : Int32), .int (0 : Int32), .ref 3] (I1, L1) (some (.int 0)) (I2, L2)) : ∃ n, xr_X11_readRot n (0, [(0, .ref 4), (1, .ref 64)], [], (I, L)) (some (.int (0 : Int32))) (I2, L2) := by
  refine xe_bT 2 (A := (16, [(0, .ref 4), (1, .ref 64)], [], (I, L))) (B := (7, [(0, .ref 4), (1, .ref 64)], [], (I, L))) h1 rfl ?_
  refine xe_go 4 (s' := (25, [(0, .ref 4), (1, .ref 64)], [.ref 3], ((xu I 4 2 (1 : Int32)), L))) rfl ?_
  refine xe_vir (n := 1) (f := fx_X7_step) rfl (Nat.le_of_ble_eq_true rfl) (List.mem_of_getElem? (i := 1) rfl) (Nat.le_of_ble_eq_true rfl) c1 ?_
  refine xe_go 3 (s' := (35, [(0, .ref 4), (1, .ref 64)], [.int (12 : Int32), .int (0 : Int32), .ref 3], (I1, L1))) rfl ?_
  refine xe_vir (n := 3) (f := fx_X7_takeNumber) rfl (Nat.le_of_ble_eq_true rfl) (List.mem_of_getElem? (i := 2) rfl) (Nat.le_of_ble_eq_true rfl) c2 ?_
  refine xe_go 1 (s' := (42, [(0, .ref 4), (1, .ref 64)], [.int (0 : Int32)], (I2, L2))) rfl ?_
  exact xe_end rfl rfl rfl
set_option maxRecDepth 100000 in
theorem pt_X11_readRot_2 {I I1 : Nat → Nat → Int32} {L L1 : Nat → Nat → Int64} (h1 : (xe_cmp .eq (I 4 2) 0) = false) (c1 : fx_X7_fail [.int (3 : Int32), .ref 3] (I, L) (some (.int 0)) (I1, L1)) : ∃ n, xr_X11_readRot n (0, [(0, .ref 4), (1, .ref 64)], [], (I, L)) (some (.int 0)) (I1, L1) := by
  refine xe_bF 2 (A := (16, [(0, .ref 4), (1, .ref 64)], [], (I, L))) (B := (7, [(0, .ref 4), (1, .ref 64)], [], (I, L))) h1 rfl ?_
  refine xe_go 2 (s' := (12, [(0, .ref 4), (1, .ref 64)], [.int (3 : Int32), .ref 3], (I, L))) rfl ?_
  refine xe_vir (n := 2) (f := fx_X7_fail) rfl (Nat.le_of_ble_eq_true rfl) (List.mem_of_getElem? (i := 0) rfl) (Nat.le_of_ble_eq_true rfl) c1 ?_
  exact xe_end rfl rfl rfl
def xi_X11_readLine : List (Nat × Nat × Instr) := [(0, 1, .aload_n 0), (1, 3, .getfield 9), (4, 3, .invokevirtual 48), (7, 1, .astore_n 2), (8, 1, .aload_n 2), (9, 3, .getstatic 52), (12, 3, .if_acmp .ne 9), (15, 1, .aload_n 0), (16, 1, .aload_n 1), (17, 3, .invokevirtual 58), (20, 1, .ireturn), (21, 1, .aload_n 2), (22, 3, .getstatic 61), (25, 3, .if_acmp .ne 9), (28, 1, .aload_n 0), (29, 1, .aload_n 1), (30, 3, .invokevirtual 64), (33, 1, .ireturn), (34, 1, .aload_n 2), (35, 3, .getstatic 67), (38, 3, .if_acmp .ne 9), (41, 1, .aload_n 0), (42, 1, .aload_n 1), (43, 3, .invokevirtual 70), (46, 1, .ireturn), (47, 1, .aload_n 2), (48, 3, .getstatic 73), (51, 3, .if_acmp .ne 9), (54, 1, .aload_n 0), (55, 1, .aload_n 1), (56, 3, .invokevirtual 76), (59, 1, .ireturn), (60, 1, .aload_n 0), (61, 3, .getfield 9), (64, 1, .iconst 1), (65, 3, .invokevirtual 79), (68, 1, .ireturn)]
def xg_X11_readLine : zf_ft := [(9, 9, 0, .inl (0, 0))]
def xp_X11_readLine : zf_ft := []
def xv_X11_readLine : List (Nat × Nat × xe_F) := [(48, 1, fx_X7_key), (58, 2, fx_X11_readMan), (64, 2, fx_X11_readLadder), (70, 2, fx_X11_readDebt), (76, 2, fx_X11_readRot), (79, 2, fx_X7_fail)]
def xt_X11_readLine : List (Nat × Nat × xe_F) := []
abbrev xr_X11_readLine := xe_run xGT xSC xRF 3 xg_X11_readLine xp_X11_readLine [(52, 201), (61, 202), (67, 203), (73, 204)] [] xv_X11_readLine xt_X11_readLine xi_X11_readLine
def fx_X11_readLine : xe_F := fun us hp v hp' => (us.map fun v => v.category).sum ≤ 3 ∧ xe_rt (some .boolean) v ∧ (∃ ar, us = ar ++ [.ref 4]) ∧ ∃ n, xr_X11_readLine n (0, xe_ag 0 us.reverse, [], hp) v hp'
theorem mk_X11_readLine  {hp hp' : xe_H} {v : Option Value} (hr : xe_rt (some .boolean) v) (h : ∃ n, xr_X11_readLine n (0, [(0, .ref 4), (1, .ref 64)], [], hp) v hp') : fx_X11_readLine [.ref 64, .ref 4] hp v hp' := ⟨Nat.le_of_ble_eq_true rfl, hr, ⟨[.ref 64], rfl⟩, h⟩
theorem hx_X11_readLine : ∀ us hp v hp', fx_X11_readLine us hp v hp' → (us.map fun v => v.category).sum ≤ 3 ∧ xe_rt (some .boolean) v ∧ ∃ n, xr_X11_readLine n (0, xe_ag 0 us.reverse, [], hp) v hp' := fun us hp v hp' h => ⟨h.1, h.2.1, h.2.2.2⟩
theorem fr_X11_readLine : ∀ us hp v hp', fx_X11_readLine us hp v hp' → ∃ ar, us = ar ++ [.ref 4] := fun us hp v hp' h => h.2.2.1
set_option maxRecDepth 100000 in
set_option maxHeartbeats 4000000 in
theorem kx_X11_readLine (l : Launch) (D : va_G) (k : Nat → ClassId) (B0 : Nat) (ad : Nat → Nat) (al sw : Nat) : xe_Con l yX11_readLine (zw yX11_readLine cX11_readLine 3 (some .boolean)) ({ frames := 4, cells := 0, slots := 0, locals := 91 }) D k ad (zEx B0 ad al sw) xGT xSC xRF fx_X11_readLine := by
  have hEx := zEx_ok B0 ad al sw
  refine xe_mk (cc := cX11_readLine) (nL := 3) (ret := (some .boolean)) (fg := xg_X11_readLine) (fp := xp_X11_readLine) (sg := [(52, 201), (61, 202), (67, 203), (73, 204)]) (lc := []) (cv := xv_X11_readLine) (cs := xt_X11_readLine) (ins := xi_X11_readLine) (by decide) rfl hEx (by decide +kernel) hx_X11_readLine ?_
  intro p e s m args below meth c Q Sg w0 A θ S hK hE hAB hA hth
  refine ⟨?_, ?_, ?_, ?_, ?_, ?_⟩
  · exact zf_ac ((fun H locs ws a q0 fs v rest pc ls hP he hv hdg kk => va_get (D := D) (ci := 9) (C := RX11) (T := TX11) (N := 4) (own := RX11) S.1 S.2.1 S.2.2.2.2 (zg_in inW_X11) S.2.2.2.1 hK hP q0 he rfl 0 (by decide) (S.2.2.2.2 (.fieldLink RX11 9 "RungMoney$TownReader" "reader" "LRungMoney$Reader;") (List.mem_cons_of_mem _ zw_199)) (fun _ h9 => h9) hv hdg kk)) zf_an
  · exact zf_an
  · exact xe_a2 ((fun H locs rest pc ls hS hdg kk => va_gets (C := RX2) (n := "MAN") (d := zkD) (v := .ref (θ 201)) S.1 S.2.1 (by rw [(hth.2 1 (by decide)).1]; exact (hE.2.2.2.1.1 1 (by decide)).1.narrow hAB) hS S.2.2.2.1 (S.2.2.2.2 (.fieldLink RX11 52 "RungMoney$Key" "MAN" "LRungMoney$Key;") (List.mem_cons_of_mem _ zw_519)) (fun _ h9 => h9) hdg (kk (by show Sg (θ 201) = some 128; rw [(hth.2 1 (by decide)).1]; exact (hth.2 1 (by decide)).2)))) (xe_a2 ((fun H locs rest pc ls hS hdg kk => va_gets (C := RX2) (n := "LADDER") (d := zkD) (v := .ref (θ 202)) S.1 S.2.1 (by rw [(hth.2 2 (by decide)).1]; exact (hE.2.2.2.1.1 2 (by decide)).1.narrow hAB) hS S.2.2.2.1 (S.2.2.2.2 (.fieldLink RX11 61 "RungMoney$Key" "LADDER" "LRungMoney$Key;") (List.mem_cons_of_mem _ zw_543)) (fun _ h9 => h9) hdg (kk (by show Sg (θ 202) = some 128; rw [(hth.2 2 (by decide)).1]; exact (hth.2 2 (by decide)).2)))) (xe_a2 ((fun H locs rest pc ls hS hdg kk => va_gets (C := RX2) (n := "DEBT") (d := zkD) (v := .ref (θ 203)) S.1 S.2.1 (by rw [(hth.2 3 (by decide)).1]; exact (hE.2.2.2.1.1 3 (by decide)).1.narrow hAB) hS S.2.2.2.1 (S.2.2.2.2 (.fieldLink RX11 67 "RungMoney$Key" "DEBT" "LRungMoney$Key;") (List.mem_cons_of_mem _ zw_572)) (fun _ h9 => h9) hdg (kk (by show Sg (θ 203) = some 128; rw [(hth.2 3 (by decide)).1]; exact (hth.2 3 (by decide)).2)))) (xe_a2 ((fun H locs rest pc ls hS hdg kk => va_gets (C := RX2) (n := "ROT") (d := zkD) (v := .ref (θ 204)) S.1 S.2.1 (by rw [(hth.2 4 (by decide)).1]; exact (hE.2.2.2.1.1 4 (by decide)).1.narrow hAB) hS S.2.2.2.1 (S.2.2.2.2 (.fieldLink RX11 73 "RungMoney$Key" "ROT" "LRungMoney$Key;") (List.mem_cons_of_mem _ zw_594)) (fun _ h9 => h9) hdg (kk (by show Sg (θ 204) = some 128; rw [(hth.2 4 (by decide)).1]; exact (hth.2 4 (by decide)).2)))) xe_n2)))
  · exact xe_n3
  · exact xe_a4 (xe_crV S hEx hE hAB hA hK hth (kx_X7_key l D k B0 ad al sw) (cwV 0 S.2.2.2.2 (zg_V zw_509 zw_510 zw_511 zw_97 zw_512) rfl rfl rfl (by decide +kernel) ⟨(Nat.le_of_ble_eq_true rfl), (Nat.le_of_ble_eq_true rfl)⟩) ⟨(Nat.le_of_ble_eq_true rfl), (Nat.le_of_ble_eq_true rfl)⟩ 5 rfl rfl 3 (by decide +kernel) fr_X7_key) (xe_a4 (xe_crV S hEx hE hAB hA hK hth (kx_X11_readMan l D k B0 ad al sw) (cwV 1 S.2.2.2.2 (zg_V zw_521 zw_523 zw_2 zw_98 zw_524) rfl rfl rfl (by decide +kernel) ⟨(Nat.le_of_ble_eq_true rfl), (Nat.le_of_ble_eq_true rfl)⟩) ⟨(Nat.le_of_ble_eq_true rfl), (Nat.le_of_ble_eq_true rfl)⟩ 9 rfl rfl 4 (by decide +kernel) fr_X11_readMan) (xe_a4 (xe_crV S hEx hE hAB hA hK hth (kx_X11_readLadder l D k B0 ad al sw) (cwV 1 S.2.2.2.2 (zg_V zw_545 zw_547 zw_3 zw_98 zw_548) rfl rfl rfl (by decide +kernel) ⟨(Nat.le_of_ble_eq_true rfl), (Nat.le_of_ble_eq_true rfl)⟩) ⟨(Nat.le_of_ble_eq_true rfl), (Nat.le_of_ble_eq_true rfl)⟩ 9 rfl rfl 4 (by decide +kernel) fr_X11_readLadder) (xe_a4 (xe_crV S hEx hE hAB hA hK hth (kx_X11_readDebt l D k B0 ad al sw) (cwV 1 S.2.2.2.2 (zg_V zw_574 zw_576 zw_5 zw_98 zw_577) rfl rfl rfl (by decide +kernel) ⟨(Nat.le_of_ble_eq_true rfl), (Nat.le_of_ble_eq_true rfl)⟩) ⟨(Nat.le_of_ble_eq_true rfl), (Nat.le_of_ble_eq_true rfl)⟩ 9 rfl rfl 4 (by decide +kernel) fr_X11_readDebt) (xe_a4 (xe_crV S hEx hE hAB hA hK hth (kx_X11_readRot l D k B0 ad al sw) (cwV 1 S.2.2.2.2 (zg_V zw_596 zw_598 zw_6 zw_98 zw_599) rfl rfl rfl (by decide +kernel) ⟨(Nat.le_of_ble_eq_true rfl), (Nat.le_of_ble_eq_true rfl)⟩) ⟨(Nat.le_of_ble_eq_true rfl), (Nat.le_of_ble_eq_true rfl)⟩ 9 rfl rfl 4 (by decide +kernel) fr_X11_readRot) (xe_a4 (xe_crV S hEx hE hAB hA hK hth (kx_X7_fail l D k B0 ad al sw) (cwV 1 S.2.2.2.2 (zg_V zw_525 zw_526 zw_527 zw_97 zw_528) rfl rfl rfl (by decide +kernel) ⟨(Nat.le_of_ble_eq_true rfl), (Nat.le_of_ble_eq_true rfl)⟩) ⟨(Nat.le_of_ble_eq_true rfl), (Nat.le_of_ble_eq_true rfl)⟩ 5 rfl rfl 3 (by decide +kernel) fr_X7_fail) xe_n4)))))
  · exact xe_n4
set_option maxRecDepth 100000 in
theorem pt_X11_readLine_0 {I I1 I2 : Nat → Nat → Int32} {L L1 L2 : Nat → Nat → Int64} {k1 : Nat} (c1 : fx_X7_key [.ref 3] (I, L) (some (.ref k1)) (I1, L1)) (h1 : (Nat.beq k1 201) = true) (c2 : fx_X11_readMan [.ref 64, .ref 4] (I1, L1) (some (.int 1)) (I2, L2)) : ∃ n, xr_X11_readLine n (0, [(0, .ref 4), (1, .ref 64)], [], (I, L)) (some (.int 1)) (I2, L2) := by
  refine xe_go 1 (s' := (4, [(0, .ref 4), (1, .ref 64)], [.ref 3], (I, L))) rfl ?_
  refine xe_vir (n := 1) (f := fx_X7_key) rfl (Nat.le_of_ble_eq_true rfl) (List.mem_of_getElem? (i := 0) rfl) (Nat.le_of_ble_eq_true rfl) c1 ?_
  refine xe_bT 3 (A := (15, [(0, .ref 4), (1, .ref 64), (2, .ref k1)], [], (I1, L1))) (B := (21, [(0, .ref 4), (1, .ref 64), (2, .ref k1)], [], (I1, L1))) h1 rfl ?_
  refine xe_go 1 (s' := (17, [(0, .ref 4), (1, .ref 64), (2, .ref k1)], [.ref 64, .ref 4], (I1, L1))) rfl ?_
  refine xe_vir (n := 2) (f := fx_X11_readMan) rfl (Nat.le_of_ble_eq_true rfl) (List.mem_of_getElem? (i := 1) rfl) (Nat.le_of_ble_eq_true rfl) c2 ?_
  exact xe_end rfl rfl rfl
set_option maxRecDepth 100000 in
theorem pt_X11_readLine_1 {I I1 I2 : Nat → Nat → Int32} {L L1 L2 : Nat → Nat → Int64} {k1 : Nat} (c1 : fx_X7_key [.ref 3] (I, L) (some (.ref k1)) (I1, L1)) (h1 : (Nat.beq k1 201) = true) (c2 : fx_X11_readMan [.ref 64, .ref 4] (I1, L1) (some (.int 0)) (I2, L2)) : ∃ n, xr_X11_readLine n (0, [(0, .ref 4), (1, .ref 64)], [], (I, L)) (some (.int 0)) (I2, L2) := by
  refine xe_go 1 (s' := (4, [(0, .ref 4), (1, .ref 64)], [.ref 3], (I, L))) rfl ?_
  refine xe_vir (n := 1) (f := fx_X7_key) rfl (Nat.le_of_ble_eq_true rfl) (List.mem_of_getElem? (i := 0) rfl) (Nat.le_of_ble_eq_true rfl) c1 ?_
  refine xe_bT 3 (A := (15, [(0, .ref 4), (1, .ref 64), (2, .ref k1)], [], (I1, L1))) (B := (21, [(0, .ref 4), (1, .ref 64), (2, .ref k1)], [], (I1, L1))) h1 rfl ?_
  refine xe_go 1 (s' := (17, [(0, .ref 4), (1, .ref 64), (2, .ref k1)], [.ref 64, .ref 4], (I1, L1))) rfl ?_
  refine xe_vir (n := 2) (f := fx_X11_readMan) rfl (Nat.le_of_ble_eq_true rfl) (List.mem_of_getElem? (i := 1) rfl) (Nat.le_of_ble_eq_true rfl) c2 ?_
  exact xe_end rfl rfl rfl
set_option maxRecDepth 100000 in
theorem pt_X11_readLine_2 {I I1 I2 : Nat → Nat → Int32} {L L1 L2 : Nat → Nat → Int64} {k1 : Nat} (c1 : fx_X7_key [.ref 3] (I, L) (some (.ref k1)) (I1, L1)) (h1 : (Nat.beq k1 201) = false) (h2 : (Nat.beq k1 202) = true) (c2 : fx_X11_readLadder [.ref 64, .ref 4] (I1, L1) (some (.int 1)) (I2, L2)) : ∃ n, xr_X11_readLine n (0, [(0, .ref 4), (1, .ref 64)], [], (I, L)) (some (.int 1)) (I2, L2) := by
  refine xe_go 1 (s' := (4, [(0, .ref 4), (1, .ref 64)], [.ref 3], (I, L))) rfl ?_
  refine xe_vir (n := 1) (f := fx_X7_key) rfl (Nat.le_of_ble_eq_true rfl) (List.mem_of_getElem? (i := 0) rfl) (Nat.le_of_ble_eq_true rfl) c1 ?_
  refine xe_bF 3 (A := (15, [(0, .ref 4), (1, .ref 64), (2, .ref k1)], [], (I1, L1))) (B := (21, [(0, .ref 4), (1, .ref 64), (2, .ref k1)], [], (I1, L1))) h1 rfl ?_
  refine xe_bT 2 (A := (28, [(0, .ref 4), (1, .ref 64), (2, .ref k1)], [], (I1, L1))) (B := (34, [(0, .ref 4), (1, .ref 64), (2, .ref k1)], [], (I1, L1))) h2 rfl ?_
  refine xe_go 1 (s' := (30, [(0, .ref 4), (1, .ref 64), (2, .ref k1)], [.ref 64, .ref 4], (I1, L1))) rfl ?_
  refine xe_vir (n := 2) (f := fx_X11_readLadder) rfl (Nat.le_of_ble_eq_true rfl) (List.mem_of_getElem? (i := 2) rfl) (Nat.le_of_ble_eq_true rfl) c2 ?_
  exact xe_end rfl rfl rfl
set_option maxRecDepth 100000 in
theorem pt_X11_readLine_3 {I I1 I2 : Nat → Nat → Int32} {L L1 L2 : Nat → Nat → Int64} {k1 : Nat} (c1 : fx_X7_key [.ref 3] (I, L) (some (.ref k1)) (I1, L1)) (h1 : (Nat.beq k1 201) = false) (h2 : (Nat.beq k1 202) = true) (c2 : fx_X11_readLadder [.ref 64, .ref 4] (I1, L1) (some (.int 0)) (I2, L2)) : ∃ n, xr_X11_readLine n (0, [(0, .ref 4), (1, .ref 64)], [], (I, L)) (some (.int 0)) (I2, L2) := by
  refine xe_go 1 (s' := (4, [(0, .ref 4), (1, .ref 64)], [.ref 3], (I, L))) rfl ?_
  refine xe_vir (n := 1) (f := fx_X7_key) rfl (Nat.le_of_ble_eq_true rfl) (List.mem_of_getElem? (i := 0) rfl) (Nat.le_of_ble_eq_true rfl) c1 ?_
  refine xe_bF 3 (A := (15, [(0, .ref 4), (1, .ref 64), (2, .ref k1)], [], (I1, L1))) (B := (21, [(0, .ref 4), (1, .ref 64), (2, .ref k1)], [], (I1, L1))) h1 rfl ?_
  refine xe_bT 2 (A := (28, [(0, .ref 4), (1, .ref 64), (2, .ref k1)], [], (I1, L1))) (B := (34, [(0, .ref 4), (1, .ref 64), (2, .ref k1)], [], (I1, L1))) h2 rfl ?_
  refine xe_go 1 (s' := (30, [(0, .ref 4), (1, .ref 64), (2, .ref k1)], [.ref 64, .ref 4], (I1, L1))) rfl ?_
  refine xe_vir (n := 2) (f := fx_X11_readLadder) rfl (Nat.le_of_ble_eq_true rfl) (List.mem_of_getElem? (i := 2) rfl) (Nat.le_of_ble_eq_true rfl) c2 ?_
  exact xe_end rfl rfl rfl
set_option maxRecDepth 100000 in
theorem pt_X11_readLine_4 {I I1 I2 : Nat → Nat → Int32} {L L1 L2 : Nat → Nat → Int64} {k1 : Nat} (c1 : fx_X7_key [.ref 3] (I, L) (some (.ref k1)) (I1, L1)) (h1 : (Nat.beq k1 201) = false) (h2 : (Nat.beq k1 202) = false) (h3 : (Nat.beq k1 203) = true) (c2 : fx_X11_readDebt [.ref 64, .ref 4] (I1, L1) (some (.int 1)) (I2, L2)) : ∃ n, xr_X11_readLine n (0, [(0, .ref 4), (1, .ref 64)], [], (I, L)) (some (.int 1)) (I2, L2) := by
  refine xe_go 1 (s' := (4, [(0, .ref 4), (1, .ref 64)], [.ref 3], (I, L))) rfl ?_
  refine xe_vir (n := 1) (f := fx_X7_key) rfl (Nat.le_of_ble_eq_true rfl) (List.mem_of_getElem? (i := 0) rfl) (Nat.le_of_ble_eq_true rfl) c1 ?_
  refine xe_bF 3 (A := (15, [(0, .ref 4), (1, .ref 64), (2, .ref k1)], [], (I1, L1))) (B := (21, [(0, .ref 4), (1, .ref 64), (2, .ref k1)], [], (I1, L1))) h1 rfl ?_
  refine xe_bF 2 (A := (28, [(0, .ref 4), (1, .ref 64), (2, .ref k1)], [], (I1, L1))) (B := (34, [(0, .ref 4), (1, .ref 64), (2, .ref k1)], [], (I1, L1))) h2 rfl ?_
  refine xe_bT 2 (A := (41, [(0, .ref 4), (1, .ref 64), (2, .ref k1)], [], (I1, L1))) (B := (47, [(0, .ref 4), (1, .ref 64), (2, .ref k1)], [], (I1, L1))) h3 rfl ?_
  refine xe_go 1 (s' := (43, [(0, .ref 4), (1, .ref 64), (2, .ref k1)], [.ref 64, .ref 4], (I1, L1))) rfl ?_
  refine xe_vir (n := 2) (f := fx_X11_readDebt) rfl (Nat.le_of_ble_eq_true rfl) (List.mem_of_getElem? (i := 3) rfl) (Nat.le_of_ble_eq_true rfl) c2 ?_
  exact xe_end rfl rfl rfl
set_option maxRecDepth 100000 in
theorem pt_X11_readLine_5 {I I1 I2 : Nat → Nat → Int32} {L L1 L2 : Nat → Nat → Int64} {k1 : Nat} (c1 : fx_X7_key [.ref 3] (I, L) (some (.ref k1)) (I1, L1)) (h1 : (Nat.beq k1 201) = false) (h2 : (Nat.beq k1 202) = false) (h3 : (Nat.beq k1 203) = true) (c2 : fx_X11_readDebt [.ref 64, .ref 4] (I1, L1) (some (.int 0)) (I2, L2)) : ∃ n, xr_X11_readLine n (0, [(0, .ref 4), (1, .ref 64)], [], (I, L)) (some (.int 0)) (I2, L2) := by
  refine xe_go 1 (s' := (4, [(0, .ref 4), (1, .ref 64)], [.ref 3], (I, L))) rfl ?_
  refine xe_vir (n := 1) (f := fx_X7_key) rfl (Nat.le_of_ble_eq_true rfl) (List.mem_of_getElem? (i := 0) rfl) (Nat.le_of_ble_eq_true rfl) c1 ?_
  refine xe_bF 3 (A := (15, [(0, .ref 4), (1, .ref 64), (2, .ref k1)], [], (I1, L1))) (B := (21, [(0, .ref 4), (1, .ref 64), (2, .ref k1)], [], (I1, L1))) h1 rfl ?_
  refine xe_bF 2 (A := (28, [(0, .ref 4), (1, .ref 64), (2, .ref k1)], [], (I1, L1))) (B := (34, [(0, .ref 4), (1, .ref 64), (2, .ref k1)], [], (I1, L1))) h2 rfl ?_
  refine xe_bT 2 (A := (41, [(0, .ref 4), (1, .ref 64), (2, .ref k1)], [], (I1, L1))) (B := (47, [(0, .ref 4), (1, .ref 64), (2, .ref k1)], [], (I1, L1))) h3 rfl ?_
  refine xe_go 1 (s' := (43, [(0, .ref 4), (1, .ref 64), (2, .ref k1)], [.ref 64, .ref 4], (I1, L1))) rfl ?_
  refine xe_vir (n := 2) (f := fx_X11_readDebt) rfl (Nat.le_of_ble_eq_true rfl) (List.mem_of_getElem? (i := 3) rfl) (Nat.le_of_ble_eq_true rfl) c2 ?_
  exact xe_end rfl rfl rfl
set_option maxRecDepth 100000 in
theorem pt_X11_readLine_6 {I I1 I2 : Nat → Nat → Int32} {L L1 L2 : Nat → Nat → Int64} {k1 : Nat} (c1 : fx_X7_key [.ref 3] (I, L) (some (.ref k1)) (I1, L1)) (h1 : (Nat.beq k1 201) = false) (h2 : (Nat.beq k1 202) = false) (h3 : (Nat.beq k1 203) = false) (h4 : (Nat.beq k1 204) = true) (c2 : fx_X11_readRot [.ref 64, .ref 4] (I1, L1) (some (.int 1)) (I2, L2)) : ∃ n, xr_X11_readLine n (0, [(0, .ref 4), (1, .ref 64)], [], (I, L)) (some (.int 1)) (I2, L2) := by
  refine xe_go 1 (s' := (4, [(0, .ref 4), (1, .ref 64)], [.ref 3], (I, L))) rfl ?_
  refine xe_vir (n := 1) (f := fx_X7_key) rfl (Nat.le_of_ble_eq_true rfl) (List.mem_of_getElem? (i := 0) rfl) (Nat.le_of_ble_eq_true rfl) c1 ?_
  refine xe_bF 3 (A := (15, [(0, .ref 4), (1, .ref 64), (2, .ref k1)], [], (I1, L1))) (B := (21, [(0, .ref 4), (1, .ref 64), (2, .ref k1)], [], (I1, L1))) h1 rfl ?_
  refine xe_bF 2 (A := (28, [(0, .ref 4), (1, .ref 64), (2, .ref k1)], [], (I1, L1))) (B := (34, [(0, .ref 4), (1, .ref 64), (2, .ref k1)], [], (I1, L1))) h2 rfl ?_
  refine xe_bF 2 (A := (41, [(0, .ref 4), (1, .ref 64), (2, .ref k1)], [], (I1, L1))) (B := (47, [(0, .ref 4), (1, .ref 64), (2, .ref k1)], [], (I1, L1))) h3 rfl ?_
  refine xe_bT 2 (A := (54, [(0, .ref 4), (1, .ref 64), (2, .ref k1)], [], (I1, L1))) (B := (60, [(0, .ref 4), (1, .ref 64), (2, .ref k1)], [], (I1, L1))) h4 rfl ?_
  refine xe_go 1 (s' := (56, [(0, .ref 4), (1, .ref 64), (2, .ref k1)], [.ref 64, .ref 4], (I1, L1))) rfl ?_
  refine xe_vir (n := 2) (f := fx_X11_readRot) rfl (Nat.le_of_ble_eq_true rfl) (List.mem_of_getElem? (i := 4) rfl) (Nat.le_of_ble_eq_true rfl) c2 ?_
  exact xe_end rfl rfl rfl
set_option maxRecDepth 100000 in
theorem pt_X11_readLine_7 {I I1 I2 : Nat → Nat → Int32} {L L1 L2 : Nat → Nat → Int64} {k1 : Nat} (c1 : fx_X7_key [.ref 3] (I, L) (some (.ref k1)) (I1, L1)) (h1 : (Nat.beq k1 201) = false) (h2 : (Nat.beq k1 202) = false) (h3 : (Nat.beq k1 203) = false) (h4 : (Nat.beq k1 204) = true) (c2 : fx_X11_readRot [.ref 64, .ref 4] (I1, L1) (some (.int 0)) (I2, L2)) : ∃ n, xr_X11_readLine n (0, [(0, .ref 4), (1, .ref 64)], [], (I, L)) (some (.int 0)) (I2, L2) := by
  refine xe_go 1 (s' := (4, [(0, .ref 4), (1, .ref 64)], [.ref 3], (I, L))) rfl ?_
  refine xe_vir (n := 1) (f := fx_X7_key) rfl (Nat.le_of_ble_eq_true rfl) (List.mem_of_getElem? (i := 0) rfl) (Nat.le_of_ble_eq_true rfl) c1 ?_
  refine xe_bF 3 (A := (15, [(0, .ref 4), (1, .ref 64), (2, .ref k1)], [], (I1, L1))) (B := (21, [(0, .ref 4), (1, .ref 64), (2, .ref k1)], [], (I1, L1))) h1 rfl ?_
  refine xe_bF 2 (A := (28, [(0, .ref 4), (1, .ref 64), (2, .ref k1)], [], (I1, L1))) (B := (34, [(0, .ref 4), (1, .ref 64), (2, .ref k1)], [], (I1, L1))) h2 rfl ?_
  refine xe_bF 2 (A := (41, [(0, .ref 4), (1, .ref 64), (2, .ref k1)], [], (I1, L1))) (B := (47, [(0, .ref 4), (1, .ref 64), (2, .ref k1)], [], (I1, L1))) h3 rfl ?_
  refine xe_bT 2 (A := (54, [(0, .ref 4), (1, .ref 64), (2, .ref k1)], [], (I1, L1))) (B := (60, [(0, .ref 4), (1, .ref 64), (2, .ref k1)], [], (I1, L1))) h4 rfl ?_
  refine xe_go 1 (s' := (56, [(0, .ref 4), (1, .ref 64), (2, .ref k1)], [.ref 64, .ref 4], (I1, L1))) rfl ?_
  refine xe_vir (n := 2) (f := fx_X11_readRot) rfl (Nat.le_of_ble_eq_true rfl) (List.mem_of_getElem? (i := 4) rfl) (Nat.le_of_ble_eq_true rfl) c2 ?_
  exact xe_end rfl rfl rfl
set_option maxRecDepth 100000 in
theorem pt_X11_readLine_8 {I I1 I2 : Nat → Nat → Int32} {L L1 L2 : Nat → Nat → Int64} {k1 : Nat} (c1 : fx_X7_key [.ref 3] (I, L) (some (.ref k1)) (I1, L1)) (h1 : (Nat.beq k1 201) = false) (h2 : (Nat.beq k1 202) = false) (h3 : (Nat.beq k1 203) = false) (h4 : (Nat.beq k1 204) = false) (c2 : fx_X7_fail [.int (1 : Int32), .ref 3] (I1, L1) (some (.int 0)) (I2, L2)) : ∃ n, xr_X11_readLine n (0, [(0, .ref 4), (1, .ref 64)], [], (I, L)) (some (.int 0)) (I2, L2) := by
  refine xe_go 1 (s' := (4, [(0, .ref 4), (1, .ref 64)], [.ref 3], (I, L))) rfl ?_
  refine xe_vir (n := 1) (f := fx_X7_key) rfl (Nat.le_of_ble_eq_true rfl) (List.mem_of_getElem? (i := 0) rfl) (Nat.le_of_ble_eq_true rfl) c1 ?_
  refine xe_bF 3 (A := (15, [(0, .ref 4), (1, .ref 64), (2, .ref k1)], [], (I1, L1))) (B := (21, [(0, .ref 4), (1, .ref 64), (2, .ref k1)], [], (I1, L1))) h1 rfl ?_
  refine xe_bF 2 (A := (28, [(0, .ref 4), (1, .ref 64), (2, .ref k1)], [], (I1, L1))) (B := (34, [(0, .ref 4), (1, .ref 64), (2, .ref k1)], [], (I1, L1))) h2 rfl ?_
  refine xe_bF 2 (A := (41, [(0, .ref 4), (1, .ref 64), (2, .ref k1)], [], (I1, L1))) (B := (47, [(0, .ref 4), (1, .ref 64), (2, .ref k1)], [], (I1, L1))) h3 rfl ?_
  refine xe_bF 2 (A := (54, [(0, .ref 4), (1, .ref 64), (2, .ref k1)], [], (I1, L1))) (B := (60, [(0, .ref 4), (1, .ref 64), (2, .ref k1)], [], (I1, L1))) h4 rfl ?_
  refine xe_go 2 (s' := (65, [(0, .ref 4), (1, .ref 64), (2, .ref k1)], [.int (1 : Int32), .ref 3], (I1, L1))) rfl ?_
  refine xe_vir (n := 2) (f := fx_X7_fail) rfl (Nat.le_of_ble_eq_true rfl) (List.mem_of_getElem? (i := 5) rfl) (Nat.le_of_ble_eq_true rfl) c2 ?_
  exact xe_end rfl rfl rfl
def xi_X11_read : List (Nat × Nat × Instr) := [(0, 1, .aload_n 1), (1, 3, .invokevirtual 15), (4, 1, .aload_n 0), (5, 1, .iconst 0), (6, 3, .putfield 20), (9, 1, .aload_n 0), (10, 1, .iconst 0), (11, 3, .putfield 24), (14, 1, .aload_n 0), (15, 3, .getfield 9), (18, 3, .sipush 900), (21, 3, .invokevirtual 28), (24, 1, .aload_n 0), (25, 1, .iconst 0), (26, 3, .putfield 34), (29, 1, .aload_n 0), (30, 3, .getfield 34), (33, 3, .sipush 900), (36, 3, .if_icmp .ge 48), (39, 1, .aload_n 0), (40, 3, .getfield 9), (43, 3, .getfield 37), (46, 3, .ifCond .eq 38), (49, 1, .aload_n 0), (50, 1, .aload_n 1), (51, 3, .invokevirtual 40), (54, 3, .ifCond .eq 15), (57, 1, .aload_n 0), (58, 3, .getfield 9), (61, 2, .bipush 59), (63, 3, .invokevirtual 44), (66, 3, .ifCond .ne 5), (69, 1, .iconst 0), (70, 1, .ireturn), (71, 1, .aload_n 0), (72, 1, .dup), (73, 3, .getfield 34), (76, 1, .iconst 1), (77, 1, .iadd), (78, 3, .putfield 34), (81, 3, .goto (-52)), (84, 1, .iconst 1), (85, 1, .ireturn)]
def xg_X11_read : zf_ft := [(9, 9, 0, .inl (0, 0)), (34, 9, 3, .inl (0, 0)), (37, 5, 4, .inl (0, 0))]
def xp_X11_read : zf_ft := [(20, 9, 1, .inl ((-2147483648), 2147483647)), (24, 9, 2, .inl (0, 1)), (34, 9, 3, .inl ((-2147483648), 2147483647))]
def xv_X11_read : List (Nat × Nat × xe_F) := [(15, 1, fx_X10_clear), (28, 2, fx_X7_open), (40, 2, fx_X11_readLine), (44, 2, fx_X7_takeSign)]
def xt_X11_read : List (Nat × Nat × xe_F) := []
abbrev xr_X11_read := xe_run xGT xSC xRF 2 xg_X11_read xp_X11_read [] [] xv_X11_read xt_X11_read xi_X11_read
def fx_X11_read : xe_F := fun us hp v hp' => (us.map fun v => v.category).sum ≤ 2 ∧ xe_rt (some .boolean) v ∧ (∃ ar, us = ar ++ [.ref 4]) ∧ ∃ n, xr_X11_read n (0, xe_ag 0 us.reverse, [], hp) v hp'
theorem mk_X11_read  {hp hp' : xe_H} {v : Option Value} (hr : xe_rt (some .boolean) v) (h : ∃ n, xr_X11_read n (0, [(0, .ref 4), (1, .ref 64)], [], hp) v hp') : fx_X11_read [.ref 64, .ref 4] hp v hp' := ⟨Nat.le_of_ble_eq_true rfl, hr, ⟨[.ref 64], rfl⟩, h⟩
theorem hx_X11_read : ∀ us hp v hp', fx_X11_read us hp v hp' → (us.map fun v => v.category).sum ≤ 2 ∧ xe_rt (some .boolean) v ∧ ∃ n, xr_X11_read n (0, xe_ag 0 us.reverse, [], hp) v hp' := fun us hp v hp' h => ⟨h.1, h.2.1, h.2.2.2⟩
theorem fr_X11_read : ∀ us hp v hp', fx_X11_read us hp v hp' → ∃ ar, us = ar ++ [.ref 4] := fun us hp v hp' h => h.2.2.1
set_option maxRecDepth 100000 in
set_option maxHeartbeats 4000000 in
theorem kx_X11_read (l : Launch) (D : va_G) (k : Nat → ClassId) (B0 : Nat) (ad : Nat → Nat) (al sw : Nat) : xe_Con l yX11_read (zw yX11_read cX11_read 2 (some .boolean)) ({ frames := 5, cells := 0, slots := 0, locals := 113 }) D k ad (zEx B0 ad al sw) xGT xSC xRF fx_X11_read := by
  have hEx := zEx_ok B0 ad al sw
  refine xe_mk (cc := cX11_read) (nL := 2) (ret := (some .boolean)) (fg := xg_X11_read) (fp := xp_X11_read) (sg := []) (lc := []) (cv := xv_X11_read) (cs := xt_X11_read) (ins := xi_X11_read) (by decide) rfl hEx (by decide +kernel) hx_X11_read ?_
  intro p e s m args below meth c Q Sg w0 A θ S hK hE hAB hA hth
  refine ⟨?_, ?_, ?_, ?_, ?_, ?_⟩
  · exact zf_ac ((fun H locs ws a q0 fs v rest pc ls hP he hv hdg kk => va_get (D := D) (ci := 9) (C := RX11) (T := TX11) (N := 4) (own := RX11) S.1 S.2.1 S.2.2.2.2 (zg_in inW_X11) S.2.2.2.1 hK hP q0 he rfl 0 (by decide) (S.2.2.2.2 (.fieldLink RX11 9 "RungMoney$TownReader" "reader" "LRungMoney$Reader;") (List.mem_cons_of_mem _ zw_199)) (fun _ h9 => h9) hv hdg kk)) (zf_ac ((fun H locs ws a q0 fs v rest pc ls hP he hv hdg kk => va_get (D := D) (ci := 9) (C := RX11) (T := TX11) (N := 4) (own := RX11) S.1 S.2.1 S.2.2.2.2 (zg_in inW_X11) S.2.2.2.1 hK hP q0 he rfl 3 (by decide) (S.2.2.2.2 (.fieldLink RX11 34 "RungMoney$TownReader" "lines" "I") (List.mem_cons_of_mem _ zw_202)) (fun _ h9 => h9) hv hdg kk)) (zf_ac ((fun H locs ws a q0 fs v rest pc ls hP he hv hdg kk => va_get (D := D) (ci := 5) (C := RX7) (T := TX7) (N := 11) (own := RX11) S.1 S.2.1 S.2.2.2.2 (zg_in inW_X7) S.2.2.2.1 hK hP q0 he rfl 4 (by decide) (S.2.2.2.2 (.fieldLink RX11 37 "RungMoney$Reader" "kind" "I") (List.mem_cons_of_mem _ zw_155)) (fun _ h9 => h9) hv hdg kk)) zf_an))
  · exact zf_ac ((fun H locs ws a q0 fs v rest pc ls hP hD hS he hl hv hdg kk => by obtain ⟨x, rfl, h1, h2⟩ := hv; exact va_put (D := D) (ci := 9) (v := .int x) (ty := .int) (C := RX11) (T := TX11) (N := 4) (own := RX11) S.1 S.2.1 S.2.2.2.2 (zg_in inW_X11) tyX11 tyX11_ok nmX11 S.2.2.2.1 hK hP hD hS q0 he rfl 1 (by decide) (S.2.2.2.2 (.fieldLink RX11 20 "RungMoney$TownReader" "debts" "I") (List.mem_cons_of_mem _ zw_200)) (fun _ h9 => h9) rfl (by decide +kernel) rfl rfl hl hdg kk)) (zf_ac ((fun H locs ws a q0 fs v rest pc ls hP hD hS he hl hv hdg kk => by obtain ⟨x, rfl, h1, h2⟩ := hv; rcases zf_01 h1 h2 with rfl | rfl <;> exact va_put (D := D) (ci := 9) (v := .int _) (ty := .boolean) (C := RX11) (T := TX11) (N := 4) (own := RX11) S.1 S.2.1 S.2.2.2.2 (zg_in inW_X11) tyX11 tyX11_ok nmX11 S.2.2.2.1 hK hP hD hS q0 he rfl 2 (by decide) (S.2.2.2.2 (.fieldLink RX11 24 "RungMoney$TownReader" "rotTold" "Z") (List.mem_cons_of_mem _ zw_201)) (fun _ h9 => h9) rfl (by decide +kernel) rfl rfl hl hdg kk)) (zf_ac ((fun H locs ws a q0 fs v rest pc ls hP hD hS he hl hv hdg kk => by obtain ⟨x, rfl, h1, h2⟩ := hv; exact va_put (D := D) (ci := 9) (v := .int x) (ty := .int) (C := RX11) (T := TX11) (N := 4) (own := RX11) S.1 S.2.1 S.2.2.2.2 (zg_in inW_X11) tyX11 tyX11_ok nmX11 S.2.2.2.1 hK hP hD hS q0 he rfl 3 (by decide) (S.2.2.2.2 (.fieldLink RX11 34 "RungMoney$TownReader" "lines" "I") (List.mem_cons_of_mem _ zw_202)) (fun _ h9 => h9) rfl (by decide +kernel) rfl rfl hl hdg kk)) zf_an))
  · exact xe_n2
  · exact xe_n3
  · exact xe_a4 (xe_crV S hEx hE hAB hA hK hth (kx_X10_clear l D k B0 ad al sw) (cwV 0 S.2.2.2.2 (zg_V zw_479 zw_480 zw_481 zw_99 zw_482) rfl rfl rfl (by decide +kernel) ⟨(Nat.le_of_ble_eq_true rfl), (Nat.le_of_ble_eq_true rfl)⟩) ⟨(Nat.le_of_ble_eq_true rfl), (Nat.le_of_ble_eq_true rfl)⟩ 8 rfl rfl 64 (by decide +kernel) fr_X10_clear) (xe_a4 (xe_crV S hEx hE hAB hA hK hth (kx_X7_open l D k B0 ad al sw) (cwV 1 S.2.2.2.2 (zg_V zw_489 zw_490 zw_491 zw_97 zw_492) rfl rfl rfl (by decide +kernel) ⟨(Nat.le_of_ble_eq_true rfl), (Nat.le_of_ble_eq_true rfl)⟩) ⟨(Nat.le_of_ble_eq_true rfl), (Nat.le_of_ble_eq_true rfl)⟩ 5 rfl rfl 3 (by decide +kernel) fr_X7_open) (xe_a4 (xe_crV S hEx hE hAB hA hK hth (kx_X11_readLine l D k B0 ad al sw) (cwV 1 S.2.2.2.2 (zg_V zw_505 zw_507 zw_1 zw_98 zw_508) rfl rfl rfl (by decide +kernel) ⟨(Nat.le_of_ble_eq_true rfl), (Nat.le_of_ble_eq_true rfl)⟩) ⟨(Nat.le_of_ble_eq_true rfl), (Nat.le_of_ble_eq_true rfl)⟩ 9 rfl rfl 4 (by decide +kernel) fr_X11_readLine) (xe_a4 (xe_crV S hEx hE hAB hA hK hth (kx_X7_takeSign l D k B0 ad al sw) (cwV 1 S.2.2.2.2 (zg_V zw_600 zw_601 zw_602 zw_97 zw_603) rfl rfl rfl (by decide +kernel) ⟨(Nat.le_of_ble_eq_true rfl), (Nat.le_of_ble_eq_true rfl)⟩) ⟨(Nat.le_of_ble_eq_true rfl), (Nat.le_of_ble_eq_true rfl)⟩ 5 rfl rfl 3 (by decide +kernel) fr_X7_takeSign) xe_n4)))
  · exact xe_n4
set_option maxRecDepth 100000 in
theorem pt_X11_read_0 {I I1 I2 : Nat → Nat → Int32} {L L1 L2 : Nat → Nat → Int64} (c1 : fx_X10_clear [.ref 64] (I, L) none (I1, L1)) (c2 : fx_X7_open [.int (900 : Int32), .ref 3] ((xu (xu I1 4 1 (0 : Int32)) 4 2 (0 : Int32)), L1) none (I2, L2)) {v9 : Option Value} {hp9 : xe_H} (r9 : ∃ n, xr_X11_read n (29, [(0, .ref 4), (1, .ref 64)], [], ((xu I2 4 3 (0 : Int32)), L2)) v9 hp9) : ∃ n, xr_X11_read n (0, [(0, .ref 4), (1, .ref 64)], [], (I, L)) v9 hp9 := by
  refine xe_go 0 (s' := (1, [(0, .ref 4), (1, .ref 64)], [.ref 64], (I, L))) rfl ?_
  refine xe_vir (n := 1) (f := fx_X10_clear) rfl (Nat.le_of_ble_eq_true rfl) (List.mem_of_getElem? (i := 0) rfl) (Nat.le_of_ble_eq_true rfl) c1 ?_
  refine xe_go 8 (s' := (21, [(0, .ref 4), (1, .ref 64)], [.int (900 : Int32), .ref 3], ((xu (xu I1 4 1 (0 : Int32)) 4 2 (0 : Int32)), L1))) rfl ?_
  refine xe_vir (n := 2) (f := fx_X7_open) rfl (Nat.le_of_ble_eq_true rfl) (List.mem_of_getElem? (i := 1) rfl) (Nat.le_of_ble_eq_true rfl) c2 ?_
  refine xe_go 2 (s' := (29, [(0, .ref 4), (1, .ref 64)], [], ((xu I2 4 3 (0 : Int32)), L2))) rfl ?_
  exact xe_nrm [0, 1] rfl r9
set_option maxRecDepth 100000 in
theorem pt_X11_read_1 {I : Nat → Nat → Int32} {L : Nat → Nat → Int64} (h1 : (xe_cmp .ge (I 4 3) (900 : Int32)) = true) : ∃ n, xr_X11_read n (29, [(0, .ref 4), (1, .ref 64)], [], (I, L)) (some (.int (1 : Int32))) (I, L) := by
  refine xe_bT 3 (A := (84, [(0, .ref 4), (1, .ref 64)], [], (I, L))) (B := (39, [(0, .ref 4), (1, .ref 64)], [], (I, L))) h1 rfl ?_
  refine xe_go 0 (s' := (85, [(0, .ref 4), (1, .ref 64)], [.int (1 : Int32)], (I, L))) rfl ?_
  exact xe_end rfl rfl rfl
set_option maxRecDepth 100000 in
theorem pt_X11_read_2 {I : Nat → Nat → Int32} {L : Nat → Nat → Int64} (h1 : (xe_cmp .ge (I 4 3) (900 : Int32)) = false) (h2 : (xe_cmp .eq (I 3 4) 0) = true) : ∃ n, xr_X11_read n (29, [(0, .ref 4), (1, .ref 64)], [], (I, L)) (some (.int (1 : Int32))) (I, L) := by
  refine xe_bF 3 (A := (84, [(0, .ref 4), (1, .ref 64)], [], (I, L))) (B := (39, [(0, .ref 4), (1, .ref 64)], [], (I, L))) h1 rfl ?_
  refine xe_bT 3 (A := (84, [(0, .ref 4), (1, .ref 64)], [], (I, L))) (B := (49, [(0, .ref 4), (1, .ref 64)], [], (I, L))) h2 rfl ?_
  refine xe_go 0 (s' := (85, [(0, .ref 4), (1, .ref 64)], [.int (1 : Int32)], (I, L))) rfl ?_
  exact xe_end rfl rfl rfl
set_option maxRecDepth 100000 in
theorem pt_X11_read_3 {I I1 I2 : Nat → Nat → Int32} {L L1 L2 : Nat → Nat → Int64} (h1 : (xe_cmp .ge (I 4 3) (900 : Int32)) = false) (h2 : (xe_cmp .eq (I 3 4) 0) = false) (c1 : fx_X11_readLine [.ref 64, .ref 4] (I, L) (some (.int 1)) (I1, L1)) (c2 : fx_X7_takeSign [.int (59 : Int32), .ref 3] (I1, L1) (some (.int 1)) (I2, L2)) {v9 : Option Value} {hp9 : xe_H} (r9 : ∃ n, xr_X11_read n (29, [(0, .ref 4), (1, .ref 64)], [], ((xu I2 4 3 ((I2 4 3) + (1 : Int32))), L2)) v9 hp9) : ∃ n, xr_X11_read n (29, [(0, .ref 4), (1, .ref 64)], [], (I, L)) v9 hp9 := by
  refine xe_bF 3 (A := (84, [(0, .ref 4), (1, .ref 64)], [], (I, L))) (B := (39, [(0, .ref 4), (1, .ref 64)], [], (I, L))) h1 rfl ?_
  refine xe_bF 3 (A := (84, [(0, .ref 4), (1, .ref 64)], [], (I, L))) (B := (49, [(0, .ref 4), (1, .ref 64)], [], (I, L))) h2 rfl ?_
  refine xe_go 1 (s' := (51, [(0, .ref 4), (1, .ref 64)], [.ref 64, .ref 4], (I, L))) rfl ?_
  refine xe_vir (n := 2) (f := fx_X11_readLine) rfl (Nat.le_of_ble_eq_true rfl) (List.mem_of_getElem? (i := 2) rfl) (Nat.le_of_ble_eq_true rfl) c1 ?_
  refine xe_go 3 (s' := (63, [(0, .ref 4), (1, .ref 64)], [.int (59 : Int32), .ref 3], (I1, L1))) rfl ?_
  refine xe_vir (n := 2) (f := fx_X7_takeSign) rfl (Nat.le_of_ble_eq_true rfl) (List.mem_of_getElem? (i := 3) rfl) (Nat.le_of_ble_eq_true rfl) c2 ?_
  refine xe_go 7 (s' := (29, [(0, .ref 4), (1, .ref 64)], [], ((xu I2 4 3 ((I2 4 3) + (1 : Int32))), L2))) rfl ?_
  exact xe_nrm [0, 1] rfl r9
set_option maxRecDepth 100000 in
theorem pt_X11_read_4 {I I1 I2 : Nat → Nat → Int32} {L L1 L2 : Nat → Nat → Int64} (h1 : (xe_cmp .ge (I 4 3) (900 : Int32)) = false) (h2 : (xe_cmp .eq (I 3 4) 0) = false) (c1 : fx_X11_readLine [.ref 64, .ref 4] (I, L) (some (.int 1)) (I1, L1)) (c2 : fx_X7_takeSign [.int (59 : Int32), .ref 3] (I1, L1) (some (.int 0)) (I2, L2)) : ∃ n, xr_X11_read n (29, [(0, .ref 4), (1, .ref 64)], [], (I, L)) (some (.int (0 : Int32))) (I2, L2) := by
  refine xe_bF 3 (A := (84, [(0, .ref 4), (1, .ref 64)], [], (I, L))) (B := (39, [(0, .ref 4), (1, .ref 64)], [], (I, L))) h1 rfl ?_
  refine xe_bF 3 (A := (84, [(0, .ref 4), (1, .ref 64)], [], (I, L))) (B := (49, [(0, .ref 4), (1, .ref 64)], [], (I, L))) h2 rfl ?_
  refine xe_go 1 (s' := (51, [(0, .ref 4), (1, .ref 64)], [.ref 64, .ref 4], (I, L))) rfl ?_
  refine xe_vir (n := 2) (f := fx_X11_readLine) rfl (Nat.le_of_ble_eq_true rfl) (List.mem_of_getElem? (i := 2) rfl) (Nat.le_of_ble_eq_true rfl) c1 ?_
  refine xe_go 3 (s' := (63, [(0, .ref 4), (1, .ref 64)], [.int (59 : Int32), .ref 3], (I1, L1))) rfl ?_
  refine xe_vir (n := 2) (f := fx_X7_takeSign) rfl (Nat.le_of_ble_eq_true rfl) (List.mem_of_getElem? (i := 3) rfl) (Nat.le_of_ble_eq_true rfl) c2 ?_
  refine xe_go 1 (s' := (70, [(0, .ref 4), (1, .ref 64)], [.int (0 : Int32)], (I2, L2))) rfl ?_
  exact xe_end rfl rfl rfl
set_option maxRecDepth 100000 in
theorem pt_X11_read_5 {I I1 : Nat → Nat → Int32} {L L1 : Nat → Nat → Int64} (h1 : (xe_cmp .ge (I 4 3) (900 : Int32)) = false) (h2 : (xe_cmp .eq (I 3 4) 0) = false) (c1 : fx_X11_readLine [.ref 64, .ref 4] (I, L) (some (.int 0)) (I1, L1)) : ∃ n, xr_X11_read n (29, [(0, .ref 4), (1, .ref 64)], [], (I, L)) (some (.int (0 : Int32))) (I1, L1) := by
  refine xe_bF 3 (A := (84, [(0, .ref 4), (1, .ref 64)], [], (I, L))) (B := (39, [(0, .ref 4), (1, .ref 64)], [], (I, L))) h1 rfl ?_
  refine xe_bF 3 (A := (84, [(0, .ref 4), (1, .ref 64)], [], (I, L))) (B := (49, [(0, .ref 4), (1, .ref 64)], [], (I, L))) h2 rfl ?_
  refine xe_go 1 (s' := (51, [(0, .ref 4), (1, .ref 64)], [.ref 64, .ref 4], (I, L))) rfl ?_
  refine xe_vir (n := 2) (f := fx_X11_readLine) rfl (Nat.le_of_ble_eq_true rfl) (List.mem_of_getElem? (i := 2) rfl) (Nat.le_of_ble_eq_true rfl) c1 ?_
  refine xe_go 1 (s' := (70, [(0, .ref 4), (1, .ref 64)], [.int (0 : Int32)], (I1, L1))) rfl ?_
  exact xe_end rfl rfl rfl
